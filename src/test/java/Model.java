import java.math.BigInteger;
import java.util.ArrayDeque;
import java.util.ArrayList;
import java.util.Arrays;
import java.util.Comparator;
import java.util.Deque;
import java.util.List;
import java.util.NoSuchElementException;
import java.util.function.ToIntFunction;

/** The document once more, as plainly and slowly as can be, for ModelTest to hold WirePost against. */
final class Model {
    /** A fault of a text. */
    private static final class Fault extends RuntimeException {
        private static final long serialVersionUID = 1L;
        final int kind;
        final int place;

        Fault(int kind, int place) {
            this.kind = kind;
            this.place = place;
        }
    }

    private static final class Text {
        final String all;
        int at = 0;

        Text(String all) {
            this.all = all;
        }

        private String next() {
            while (at < all.length() && all.charAt(at) == ' ') {
                at++;
            }
            int end = at;
            if (end == all.length()) {
                return "";
            }
            String digits = "0123456789";
            String small = "abcdefghijklmnopqrstuvwxyz";
            String set = digits.indexOf(all.charAt(at)) >= 0 ? digits : small.indexOf(all.charAt(at)) >= 0 ? small : "";
            do {
                end++;
            } while (end < all.length() && set.indexOf(all.charAt(end)) >= 0);
            return all.substring(at, end);
        }

        boolean ends() {
            return next().isEmpty();
        }

        boolean is(String token) {
            return next().equals(token);
        }

        void must(String token) {
            if (!is(token)) {
                throw new Fault(1, at);
            }
            at += token.length();
        }

        boolean isNumber() {
            return next().matches("[0-9]+");
        }

        int number(int low, int high, int... not) {
            String token = next();
            if (!isNumber()) {
                throw new Fault(1, at);
            }
            BigInteger n = new BigInteger(token);
            boolean bad = n.compareTo(BigInteger.valueOf(low)) < 0 || n.compareTo(BigInteger.valueOf(high)) > 0;
            for (int x : not) {
                bad |= n.equals(BigInteger.valueOf(x));
            }
            if (bad) {
                throw new Fault(2, at);
            }
            at += token.length();
            return n.intValue();
        }

        String word(String... words) {
            String token = next();
            if (!Arrays.asList(words).contains(token)) {
                throw new Fault(1, at);
            }
            return token;
        }
    }

    private record Wire(int a, int b, int slack) {
    }

    private record Walker(int home, int nerve, int takes) {
    }

    private record Letter(int from, int to, int kind, int weight) {
    }

    private static final class Town {
        final List<Integer> towers = new ArrayList<>();
        final List<Wire> wires = new ArrayList<>();
        final List<Walker> walkers = new ArrayList<>();
        final List<Letter> letters = new ArrayList<>();
    }

    /** What WORK changes. */
    private static final class World {
        int day;
        boolean fog;
        int[] slack;
        int[] hum;
        int[] at;
        int[] resin;
        int[] falls;
        int[] lies;
        int[] carrier;
        boolean[] there;

        World(Town t) {
            slack = t.wires.stream().mapToInt(Wire::slack).toArray();
            hum = new int[slack.length];
            at = t.walkers.stream().mapToInt(Walker::home).toArray();
            resin = new int[at.length];
            falls = new int[at.length];
            lies = t.letters.stream().mapToInt(Letter::from).toArray();
            carrier = new int[lies.length];
            Arrays.fill(carrier, -1);
            there = new boolean[lies.length];
        }

        World(World w) {
            day = w.day;
            fog = w.fog;
            slack = w.slack.clone();
            hum = w.hum.clone();
            at = w.at.clone();
            resin = w.resin.clone();
            falls = w.falls.clone();
            lies = w.lies.clone();
            carrier = w.carrier.clone();
            there = w.there.clone();
        }
    }

    private record Image(World world, List<World> works) {
    }

    private record Step(String word, int x, int y, List<Step> body) {
    }

    private static final ToIntFunction<int[]> NO_LAW = v -> v[0] * 2 + v[2] + v[3];
    private static final String[] VALUES = {"slack", "rise", "load", "kind", "letters", "hum", "fog", "resin", "day",
        "least", "most"};

    private String tape = "";
    private Town town = new Town();
    private ToIntFunction<int[]> rule = NO_LAW;
    private int[][] lines = new int[0][];
    private World world = new World(town);
    private Deque<World> works = new ArrayDeque<>();
    private final Deque<Image> pictures = new ArrayDeque<>();
    private int faultPlace = -1;
    private int refused;
    private int begun;
    private int done;
    private int stepsRefused;
    private final int[] statuses = new int[2];

    private void need(boolean good) {
        if (!good) {
            statuses[1]++;
            throw new IllegalArgumentException();
        }
    }

    private void has(int k, List<?> all) {
        if (k < 0 || k >= all.size()) {
            statuses[0]++;
            throw new NoSuchElementException();
        }
    }

    private static boolean in(int x, int low, int high) {
        return low <= x && x <= high;
    }

    int feed(int... five) {
        if (tape.length() + 20 > 600) {
            return -1;
        }
        StringBuilder all = new StringBuilder(tape);
        for (int number : five) {
            all.append((char) (number >> 24 & 255)).append((char) (number >> 16 & 255));
            all.append((char) (number >> 8 & 255)).append((char) (number & 255));
        }
        tape = all.toString();
        return tape.length();
    }

    private Text text(int n, int most) {
        need(in(n, 0, most) && n <= tape.length());
        Text text = new Text(tape.substring(0, n));
        tape = "";
        faultPlace = -1;
        return text;
    }

    int city(int n) {
        Text text = text(n, 600);
        try {
            town = readCity(text);
        } catch (Fault f) {
            faultPlace = f.place;
            return f.kind - 10;
        }
        rule = NO_LAW;
        lines = new int[0][];
        works.clear();
        pictures.clear();
        refused = 0;
        world = new World(town);
        return town.letters.size();
    }

    private static Town readCity(Text text) {
        Town t = new Town();
        for (int clauses = 0; !text.ends(); clauses++) {
            String word = text.word("tower", "wire", "walker", "letter");
            List<?> all = word.equals("tower") ? t.towers : word.equals("wire") ? t.wires
                    : word.equals("walker") ? t.walkers : t.letters;
            int most = word.equals("tower") ? 8 : word.equals("wire") ? 12 : word.equals("walker") ? 6 : 8;
            if (clauses == 60 || all.size() == most) {
                throw new Fault(3, text.at);
            }
            text.must(word);
            int last = t.towers.size() - 1;
            switch (word) {
                case "tower" -> t.towers.add(text.number(0, 40));
                case "wire" -> {
                    int a = text.number(0, last);
                    List<Integer> not = new ArrayList<>(List.of(a));
                    for (Wire w : t.wires) {
                        if (w.a == a) {
                            not.add(w.b);
                        }
                        if (w.b == a) {
                            not.add(w.a);
                        }
                    }
                    int b = text.number(0, last, not.stream().mapToInt(k -> k).toArray());
                    t.wires.add(new Wire(a, b, text.number(0, 9)));
                }
                case "walker" -> t.walkers.add(new Walker(text.number(0, last), text.number(0, 40), text.number(0, 6)));
                default -> t.letters.add(new Letter(text.number(0, last), text.number(0, last), text.number(0, 5),
                        text.number(1, 9)));
            }
            text.must(";");
        }
        return t;
    }

    int law(int n) {
        Text text = text(n, 150);
        try {
            ToIntFunction<int[]> e = sum(text, 0);
            if (!text.ends()) {
                throw new Fault(1, text.at);
            }
            rule = e;
        } catch (Fault f) {
            faultPlace = f.place;
            return f.kind - 10;
        }
        return 1;
    }

    private static ToIntFunction<int[]> sum(Text text, int open) {
        ToIntFunction<int[]> e = product(text, open);
        while (text.is("+") || text.is("-")) {
            boolean plus = text.is("+");
            text.must(plus ? "+" : "-");
            ToIntFunction<int[]> x = e;
            ToIntFunction<int[]> y = product(text, open);
            e = v -> plus ? x.applyAsInt(v) + y.applyAsInt(v) : x.applyAsInt(v) - y.applyAsInt(v);
        }
        return e;
    }

    private static ToIntFunction<int[]> product(Text text, int open) {
        ToIntFunction<int[]> e = unit(text, open);
        while (text.is("*") || text.is("/")) {
            boolean times = text.is("*");
            text.must(times ? "*" : "/");
            ToIntFunction<int[]> x = e;
            ToIntFunction<int[]> y = unit(text, open);
            e = v -> {
                int right = y.applyAsInt(v);
                return times ? x.applyAsInt(v) * right : right == 0 ? 0 : x.applyAsInt(v) / right;
            };
        }
        return e;
    }

    private static ToIntFunction<int[]> unit(Text text, int open) {
        if (text.isNumber()) {
            int n = text.number(0, 999);
            return v -> n;
        }
        String word = text.is("(") ? "(" : text.word(VALUES);
        int index = Arrays.asList(VALUES).indexOf(word);
        if (index >= 0 && index < 9) {
            text.must(word);
            return v -> v[index];
        }
        if (open == 6) {
            throw new Fault(3, text.at);
        }
        text.must(word);
        if (word.equals("(")) {
            ToIntFunction<int[]> e = sum(text, open + 1);
            text.must(")");
            return e;
        }
        text.must("[");
        ToIntFunction<int[]> x = sum(text, open + 1);
        text.must(",");
        ToIntFunction<int[]> y = sum(text, open + 1);
        text.must("]");
        return word.equals("least") ? v -> Math.min(x.applyAsInt(v), y.applyAsInt(v))
                : v -> Math.max(x.applyAsInt(v), y.applyAsInt(v));
    }

    int work(int n) {
        Text text = text(n, 150);
        if (works.size() == 16) {
            return -20;
        }
        List<Step> steps;
        try {
            steps = steps(text, 0);
        } catch (Fault f) {
            faultPlace = f.place;
            return f.kind - 10;
        }
        works.push(new World(world));
        begun = 0;
        done = 0;
        stepsRefused = 0;
        runAll(steps);
        refused = stepsRefused;
        return done;
    }

    private List<Step> steps(Text text, int open) {
        List<Step> all = new ArrayList<>();
        while (!(open == 0 ? text.ends() : text.is("]"))) {
            String word = text.word("take", "give", "go", "slack", "resin", "fog", "night", "again");
            if (word.equals("again") && open == 6) {
                throw new Fault(3, text.at);
            }
            text.must(word);
            int walkers = town.walkers.size() - 1;
            int letters = town.letters.size() - 1;
            switch (word) {
                case "take", "give" -> all.add(new Step(word, text.number(0, walkers), text.number(0, letters), null));
                case "go" ->
                    all.add(new Step(word, text.number(0, walkers), text.number(0, town.towers.size() - 1), null));
                case "slack" -> all.add(new Step(word, text.number(0, town.wires.size() - 1), text.number(0, 9), null));
                case "resin" -> all.add(new Step(word, text.number(0, walkers), 0, null));
                case "again" -> {
                    int times = text.number(0, 30);
                    text.must("[");
                    all.add(new Step(word, times, 0, steps(text, open + 1)));
                    text.must("]");
                }
                default -> all.add(new Step(word, 0, 0, null));
            }
            text.must(";");
        }
        return all;
    }

    private void runAll(List<Step> steps) {
        for (Step s : steps) {
            if (begun == 200) {
                return;
            }
            begun++;
            if (s.body != null) {
                for (int k = 0; k < s.x; k++) {
                    runAll(s.body);
                }
            } else if (does(world, s)) {
                done++;
            } else {
                stepsRefused++;
            }
        }
    }

    private boolean does(World w, Step s) {
        switch (s.word) {
            case "take": {
                boolean kind = town.walkers.get(s.x).takes == 6
                        || town.walkers.get(s.x).takes == town.letters.get(s.y).kind;
                boolean full = carried(w, s.x).size() == 2;
                if (w.at[s.x] == -1 || w.there[s.y] || w.lies[s.y] != w.at[s.x] || !kind || full) {
                    return false;
                }
                w.lies[s.y] = -1;
                w.carrier[s.y] = s.x;
                return true;
            }
            case "give":
                if (w.carrier[s.y] != s.x) {
                    return false;
                }
                lay(w, s.y, w.at[s.x]);
                return true;
            case "go":
                return goes(w, s.x, s.y);
            case "slack": {
                boolean other = w.slack[s.x] != s.y;
                w.slack[s.x] = s.y;
                return other;
            }
            case "resin":
                if (w.at[s.x] == -1 || w.resin[s.x] == 9) {
                    return false;
                }
                w.resin[s.x]++;
                return true;
            case "fog":
                w.fog = !w.fog;
                return true;
            default:
                if (w.day == 700) {
                    return false;
                }
                night(w);
                return true;
        }
    }

    private void lay(World w, int letter, int tower) {
        w.carrier[letter] = -1;
        w.lies[letter] = tower;
        w.there[letter] = town.letters.get(letter).to == tower;
    }

    private void night(World w) {
        w.day++;
        w.fog = false;
        Arrays.fill(w.hum, 0);
        Arrays.fill(w.resin, 0);
        for (int k = 0; k < w.at.length; k++) {
            if (w.at[k] == -1) {
                w.at[k] = town.walkers.get(k).home;
            }
        }
    }

    private List<Integer> carried(World w, int walker) {
        List<Integer> all = new ArrayList<>();
        for (int k = 0; k < w.carrier.length; k++) {
            if (w.carrier[k] == walker) {
                all.add(k);
            }
        }
        return all;
    }

    private boolean goes(World w, int walker, int tower) {
        int from = w.at[walker];
        int e = from == -1 ? -1 : joining(from, tower);
        if (e == -1) {
            return false;
        }
        int lean = leanOf(w, walker, from, tower, w.fog, mine(w, walker));
        w.hum[e]++;
        if (Math.abs(lean) <= town.walkers.get(walker).nerve) {
            w.at[walker] = tower;
        } else {
            for (int k : carried(w, walker)) {
                lay(w, k, from);
            }
            w.at[walker] = -1;
            w.falls[walker]++;
        }
        return true;
    }

    private List<Letter> mine(World w, int walker) {
        return carried(w, walker).stream().map(town.letters::get).toList();
    }

    private int joining(int a, int b) {
        for (int e = 0; e < town.wires.size(); e++) {
            Wire w = town.wires.get(e);
            if (w.a == a && w.b == b || w.a == b && w.b == a) {
                return e;
            }
        }
        return -1;
    }

    private int leanOf(World w, int walker, int from, int to, boolean fog, List<Letter> carries) {
        int e = joining(from, to);
        int load = carries.stream().mapToInt(Letter::weight).sum();
        int kind = carries.stream().mapToInt(Letter::kind).max().orElse(0);
        int[] v = {w.slack[e], town.towers.get(to) - town.towers.get(from), load, kind, carries.size(), w.hum[e],
            fog ? 1 : 0, w.resin[walker], w.day};
        return Math.min(99, Math.max(-99, rule.applyAsInt(v)));
    }

    int book(int n) {
        Text text = text(n, 100);
        List<int[]> all = new ArrayList<>();
        try {
            while (!text.ends()) {
                int place = text.at;
                int e = text.number(0, town.wires.size() - 1, all.stream().mapToInt(l -> l[0]).toArray());
                if (all.size() == 12) {
                    throw new Fault(3, place);
                }
                all.add(new int[] {e, text.number(0, 99)});
                text.must(";");
            }
        } catch (Fault f) {
            faultPlace = f.place;
            return f.kind - 10;
        }
        lines = all.toArray(new int[0][]);
        return lines.length;
    }

    int fault() {
        return faultPlace;
    }

    int undo() {
        if (works.isEmpty()) {
            return -1;
        }
        world = works.pop();
        refused = 0;
        return works.size();
    }

    private static int bits(boolean... all) {
        int bits = 0;
        for (int k = 0; k < all.length; k++) {
            bits += all[k] ? 1 << k : 0;
        }
        return bits;
    }

    private static int bitsOf(int[] all, int x) {
        boolean[] same = new boolean[all.length];
        for (int k = 0; k < all.length; k++) {
            same[k] = all[k] == x;
        }
        return bits(same);
    }

    int told(int what) {
        need(in(what, 0, 10));
        return new int[] {town.towers.size(), town.wires.size(), town.walkers.size(), town.letters.size(), world.day,
            world.fog ? 1 : 0, bits(world.there), bitsOf(world.at, -1), lines.length, refused,
            Arrays.stream(world.hum).sum()}[what];
    }

    int tower(int tower, int what) {
        has(tower, town.towers);
        need(in(what, 0, 3));
        int wires = 0;
        for (int other = 0; other < town.towers.size(); other++) {
            wires |= joining(tower, other) >= 0 ? 1 << joining(tower, other) : 0;
        }
        return new int[] {town.towers.get(tower), wires, bitsOf(world.at, tower),
            bitsOf(world.lies, tower) & ~bits(world.there)}[what];
    }

    int wire(int wire, int what) {
        has(wire, town.wires);
        need(in(what, 0, 3));
        Wire w = town.wires.get(wire);
        return new int[] {w.a, w.b, world.slack[wire], world.hum[wire]}[what];
    }

    int walker(int walker, int what) {
        has(walker, town.walkers);
        need(in(what, 0, 6));
        Walker w = town.walkers.get(walker);
        return new int[] {world.at[walker], w.nerve, w.takes, bitsOf(world.carrier, walker), world.resin[walker],
            world.falls[walker], w.home}[what];
    }

    int letter(int letter, int what) {
        has(letter, town.letters);
        need(in(what, 0, 6));
        Letter l = town.letters.get(letter);
        return new int[] {l.from, l.to, l.kind, l.weight, world.lies[letter], world.carrier[letter],
            world.there[letter] ? 1 : 0}[what];
    }

    int between(int tower, int other) {
        has(tower, town.towers);
        has(other, town.towers);
        return joining(tower, other);
    }

    int lean(int walker, int wire, int how) {
        has(walker, town.walkers);
        has(wire, town.wires);
        need(in(how, 0, 1));
        Wire w = town.wires.get(wire);
        return leanOf(world, walker, how == 0 ? w.a : w.b, how == 0 ? w.b : w.a, world.fog, mine(world, walker));
    }

    int would(int... v) {
        int[] most = {9, 40, 18, 5, 2, 999, 1, 9, 700};
        for (int k = 0; k < 9; k++) {
            need(in(v[k], k == 1 ? -40 : 0, most[k]));
        }
        return Math.min(99, Math.max(-99, rule.applyAsInt(v)));
    }

    int over(int walker, int wire, int how) {
        return Math.abs(lean(walker, wire, how)) <= town.walkers.get(walker).nerve ? 1 : 0;
    }

    /** Of all shortest ways (towers behind from) the first by towers; null without. */
    private List<Integer> path(int walker, int from, int to, List<Letter> carries) {
        if (from == -1) {
            return null;
        }
        List<List<Integer>> found = new ArrayList<>();
        seek(walker, from, to, carries, new ArrayList<>(List.of(from)), found);
        List<Integer> best = null;
        for (List<Integer> p : found) {
            if (best == null || p.size() < best.size() || p.size() == best.size() && isAhead(p, best)) {
                best = p;
            }
        }
        return best;
    }

    private static boolean isAhead(List<Integer> p, List<Integer> q) {
        for (int k = 0; k < p.size(); k++) {
            if (!p.get(k).equals(q.get(k))) {
                return p.get(k) < q.get(k);
            }
        }
        return false;
    }

    private void seek(int walker, int at, int to, List<Letter> carries, List<Integer> path, List<List<Integer>> found) {
        if (at == to) {
            found.add(new ArrayList<>(path.subList(1, path.size())));
            return;
        }
        for (int next = 0; next < town.towers.size(); next++) {
            boolean can = !path.contains(next) && joining(at, next) >= 0
                    && Math.abs(leanOf(world, walker, at, next, world.fog, carries)) <= town.walkers.get(walker).nerve;
            if (can) {
                path.add(next);
                seek(walker, next, to, carries, path, found);
                path.remove(path.size() - 1);
            }
        }
    }

    private List<Integer> pathAsHeIs(int walker, int to) {
        return path(walker, world.at[walker], to, mine(world, walker));
    }

    int reach(int walker) {
        has(walker, town.walkers);
        int bits = 0;
        for (int k = 0; k < town.towers.size(); k++) {
            bits |= pathAsHeIs(walker, k) != null ? 1 << k : 0;
        }
        return bits;
    }

    int way(int walker, int tower, int what) {
        has(walker, town.walkers);
        has(tower, town.towers);
        need(in(what, 0, 1));
        List<Integer> p = pathAsHeIs(walker, tower);
        if (p == null) {
            return -1;
        }
        return what == 0 ? p.size() : p.isEmpty() ? -1 : p.get(0);
    }

    private int brings(int walker, int letter) {
        Letter l = town.letters.get(letter);
        boolean lies = !world.there[letter] && world.lies[letter] >= 0;
        int takes = town.walkers.get(walker).takes;
        if (!lies || world.at[walker] == -1 || !mine(world, walker).isEmpty() || takes != 6 && takes != l.kind) {
            return -1;
        }
        List<Integer> to = path(walker, world.at[walker], world.lies[letter], List.of());
        List<Integer> on = path(walker, world.lies[letter], l.to, List.of(l));
        return to == null || on == null ? -1 : to.size() + on.size();
    }

    int send(int letter, int what) {
        has(letter, town.letters);
        need(in(what, 0, 1));
        int best = -1;
        for (int k = town.walkers.size() - 1; k >= 0; k--) {
            if (brings(k, letter) >= 0 && (best == -1 || brings(k, letter) <= brings(best, letter))) {
                best = k;
            }
        }
        return what == 0 || best == -1 ? best : brings(best, letter);
    }

    int meet(int walker, int other, int what) {
        has(walker, town.walkers);
        has(other, town.walkers);
        need(in(what, 0, 1));
        int best = -1;
        int fewest = 99;
        for (int k = 0; k < town.towers.size(); k++) {
            List<Integer> p = pathAsHeIs(walker, k);
            List<Integer> q = pathAsHeIs(other, k);
            if (p != null && q != null && p.size() + q.size() < fewest) {
                best = k;
                fewest = p.size() + q.size();
            }
        }
        return best == -1 ? -1 : what == 0 ? best : fewest;
    }

    /** The least tower of each tower's part, by the wires told as bits. */
    private int[] labels(int wires) {
        int[] label = new int[town.towers.size()];
        for (int k = 0; k < label.length; k++) {
            label[k] = k;
        }
        for (int round = 0; round < 8; round++) {
            for (int e = 0; e < town.wires.size(); e++) {
                if ((wires & 1 << e) != 0) {
                    Wire w = town.wires.get(e);
                    int least = Math.min(label[w.a], label[w.b]);
                    label[w.a] = least;
                    label[w.b] = least;
                }
            }
        }
        return label;
    }

    private int all() {
        return (1 << town.wires.size()) - 1;
    }

    private int partsBy(int wires) {
        return (int) Arrays.stream(labels(wires)).distinct().count();
    }

    int parts(int what) {
        need(in(what, 0, 1));
        int[] label = labels(all());
        int greatest = 0;
        for (int l : label) {
            greatest = Math.max(greatest, (int) Arrays.stream(label).filter(k -> k == l).count());
        }
        return what == 0 ? partsBy(all()) : greatest;
    }

    int bridges() {
        int bits = 0;
        for (int e = 0; e < town.wires.size(); e++) {
            bits |= partsBy(all() - (1 << e)) > partsBy(all()) ? 1 << e : 0;
        }
        return bits;
    }

    int frame(int what) {
        need(in(what, 0, 1));
        int[] want = labels(all());
        int best = -1;
        int bestSlack = 0;
        for (int set = 0; set <= all(); set++) {
            int slack = 0;
            for (int e = 0; e < town.wires.size(); e++) {
                slack += (set >> e & 1) * world.slack[e];
            }
            boolean less = best == -1 || slack < bestSlack
                    || slack == bestSlack && Integer.bitCount(set) < Integer.bitCount(best);
            if (less && Arrays.equals(want, labels(set))) {
                best = set;
                bestSlack = slack;
            }
        }
        return what == 0 ? bestSlack : best;
    }

    private List<Letter> fitting(int walker, int[][] book) {
        List<Letter> all = new ArrayList<>();
        for (int kind = 0; kind <= 5; kind++) {
            for (int weight = 1; weight <= 9; weight++) {
                Letter l = new Letter(0, 0, kind, weight);
                if (Arrays.stream(book).allMatch(line -> size(walker, line[0], l) == line[1])) {
                    all.add(l);
                }
            }
        }
        return all;
    }

    private int size(int walker, int wire, Letter l) {
        Wire w = town.wires.get(wire);
        return Math.abs(leanOf(world, walker, w.a, w.b, world.fog, List.of(l)));
    }

    int fits(int walker, int what) {
        has(walker, town.walkers);
        need(in(what, 0, 1));
        List<Letter> all = fitting(walker, lines);
        return what == 0 ? all.size() : all.isEmpty() ? -1 : 10 * all.get(0).kind + all.get(0).weight;
    }

    int look(int walker, int what) {
        has(walker, town.walkers);
        need(in(what, 0, 1));
        List<Letter> fits = fitting(walker, lines);
        int best = -1;
        int bestLeft = 99;
        for (int e = 0; e < town.wires.size(); e++) {
            int wire = e;
            if (Arrays.stream(lines).noneMatch(line -> line[0] == wire)) {
                int worst = 0;
                for (int seen = 0; seen <= 99; seen++) {
                    int s = seen;
                    worst = Math.max(worst, (int) fits.stream().filter(l -> size(walker, wire, l) == s).count());
                }
                if (worst < bestLeft) {
                    best = e;
                    bestLeft = worst;
                }
            }
        }
        return best == -1 ? -1 : what == 0 ? best : bestLeft;
    }

    private int[] matching;
    private int matchedMost;

    private void tryAll(boolean[][] can, int letter, int[] now, int used, int given) {
        if (letter == now.length) {
            if (given > matchedMost) {
                matchedMost = given;
                matching = now.clone();
            }
            return;
        }
        for (int k = 0; k < town.walkers.size(); k++) {
            if (can[letter][k] && (used >> k & 1) == 0) {
                now[letter] = k;
                tryAll(can, letter + 1, now, used | 1 << k, given + 1);
            }
        }
        now[letter] = -1;
        tryAll(can, letter + 1, now, used, given);
    }

    int match() {
        boolean[][] can = new boolean[town.letters.size()][town.walkers.size()];
        for (int l = 0; l < can.length; l++) {
            for (int k = 0; k < can[l].length; k++) {
                can[l][k] = brings(k, l) >= 0;
            }
        }
        matchedMost = -1;
        tryAll(can, 0, new int[can.length], 0, 0);
        return matchedMost;
    }

    int matched(int letter) {
        has(letter, town.letters);
        match();
        return matching[letter];
    }

    long likely(int walker, int tower, int q, int part) {
        has(walker, town.walkers);
        has(tower, town.towers);
        need(in(q, 0, 16) && in(part, 0, 1));
        List<Integer> p = pathAsHeIs(walker, tower);
        if (p == null) {
            return part;
        }
        BigInteger above = BigInteger.ZERO;
        for (int foggy = 0; foggy < 1 << p.size(); foggy++) {
            BigInteger weight = BigInteger.ONE;
            int from = world.at[walker];
            for (int k = 0; k < p.size(); k++) {
                boolean fog = (foggy >> k & 1) == 1;
                int lean = leanOf(world, walker, from, p.get(k), fog, mine(world, walker));
                boolean over = Math.abs(lean) <= town.walkers.get(walker).nerve;
                weight = weight.multiply(BigInteger.valueOf(over ? fog ? q : 16 - q : 0));
                from = p.get(k);
            }
            above = above.add(weight);
        }
        BigInteger below = BigInteger.valueOf(16).pow(p.size());
        BigInteger common = above.gcd(below);
        return (part == 0 ? above : below).divide(common).longValue();
    }

    int middle(int v, int a, int b, int what) {
        need(in(v, 0, 99) && in(a, 0, 99) && in(b, 0, 99) && in(what, 0, 2));
        int[][][] has = {{{0, 0}, {-b, v}}, {{v, -b}, {-a, -a}}};
        List<int[]> rests = new ArrayList<>();
        for (int x = 0; x < 2; x++) {
            for (int y = 0; y < 2; y++) {
                if (has[1 - x][y][0] <= has[x][y][0] && has[x][1 - y][1] <= has[x][y][1]) {
                    rests.add(new int[] {10 * x + y, has[x][y][0] + has[x][y][1]});
                }
            }
        }
        return what == 0 ? rests.size() : rests.get(0)[what - 1];
    }

    int share(int letter, int letters, int n) {
        has(letter, town.letters);
        need(in(n, 0, 999) && letters >= 0 && letters < 1 << town.letters.size());
        List<Integer> told = new ArrayList<>();
        int sum = 0;
        for (int k = 0; k < town.letters.size(); k++) {
            if ((letters >> k & 1) == 1) {
                told.add(k);
                sum += town.letters.get(k).weight;
            }
        }
        if (!told.contains(letter)) {
            return 0;
        }
        int all = sum;
        int[] has = new int[8];
        int left = n;
        for (int k : told) {
            has[k] = n * town.letters.get(k).weight / all;
            left -= has[k];
        }
        told.sort(Comparator.comparing((Integer k) -> -(n * town.letters.get(k).weight % all)).thenComparing(k -> k));
        for (int k = 0; k < left; k++) {
            has[told.get(k)]++;
        }
        return has[letter];
    }

    int loudest(int what) {
        need(in(what, 0, 1));
        int most = Arrays.stream(world.hum).max().orElse(0);
        if (most == 0) {
            return -1;
        }
        for (int e = 0; e < world.hum.length; e++) {
            if (world.hum[e] == most) {
                return what == 0 ? e : most;
            }
        }
        return -1;
    }

    private int seedNow;

    private int draw(int n) {
        long next = (seedNow & 0xffffffffL) * 1103515245L + 12345L;
        seedNow = (int) next;
        return (int) ((next >> 16) & 0x7fff) % n;
    }

    private int[] seasonOf(int seed, int q, int walks) {
        World w = new World(world);
        seedNow = seed;
        int fallsAhead = Arrays.stream(w.falls).sum();
        int walked = 0;
        if (!town.walkers.isEmpty()) {
            for (int k = 1; k <= walks; k++) {
                int walker = draw(town.walkers.size());
                int tower = draw(town.towers.size());
                walked += goes(w, walker, tower) ? 1 : 0;
                for (String word : new String[] {"give", "take"}) {
                    for (int l = 0; l < town.letters.size(); l++) {
                        does(w, new Step(word, walker, l, null));
                    }
                }
                if (draw(16) < q) {
                    w.fog = !w.fog;
                }
                if (k % 8 == 0) {
                    night(w);
                }
            }
        }
        return new int[] {bits(w.there), Arrays.stream(w.falls).sum() - fallsAhead, walked, w.day - world.day};
    }

    int season(int seed, int q, int walks, int what) {
        need(in(q, 0, 16) && in(walks, 1, 96) && in(what, 0, 3));
        return seasonOf(seed, q, walks)[what];
    }

    int span(int seed, int many, int q, int walks, int what) {
        need(in(many, 1, 20) && in(q, 0, 16) && in(walks, 1, 96) && in(what, 0, 2));
        int[] there = new int[many];
        int unfallen = 0;
        for (int k = 0; k < many; k++) {
            int[] s = seasonOf(seed + k, q, walks);
            there[k] = Integer.bitCount(s[0]);
            unfallen += s[1] == 0 ? 1 : 0;
        }
        Arrays.sort(there);
        return what == 0 ? there[0] : what == 1 ? there[many - 1] : unfallen;
    }

    int image() {
        if (pictures.size() == 3) {
            return -1;
        }
        List<World> copies = new ArrayList<>();
        for (World w : works) {
            copies.add(new World(w));
        }
        pictures.push(new Image(new World(world), copies));
        return pictures.size();
    }

    int restore() {
        if (pictures.isEmpty()) {
            return -1;
        }
        Image i = pictures.pop();
        world = i.world;
        works = new ArrayDeque<>(i.works);
        refused = 0;
        return pictures.size();
    }

    int status(int what) {
        return in(what, 0, 1) ? statuses[what] : -1;
    }

    int count(int what) {
        return in(what, 0, 2) ? new int[] {pictures.size(), tape.length(), works.size()}[what] : -1;
    }
}
