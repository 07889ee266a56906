import java.nio.charset.StandardCharsets;
import java.util.ArrayList;
import java.util.List;
import java.util.Random;
import java.util.function.LongSupplier;

/** Many runs of drawn calls, told texts right and wrong, on WirePost and on the plain model beside it. */
public final class ModelTest {
    private static final int RUNS = 700;
    private static final int CALLS = 300;

    private final Random random;
    private final List<String> log = new ArrayList<>();
    private WirePost x = new WirePost();
    private Model y = new Model();

    private ModelTest(long seed) {
        random = new Random(seed);
    }

    public static void main(String[] args) {
        int runs = args.length > 0 ? Integer.parseInt(args[0]) : RUNS;
        for (int seed = 1; seed <= runs; seed++) {
            ModelTest run = new ModelTest(seed);
            if (!run.all()) {
                System.out.println("seed " + seed + ", the last calls:");
                run.log.stream().skip(Math.max(0, run.log.size() - 30)).forEach(System.out::println);
                break;
            }
        }
        Due.end();
    }

    private boolean all() {
        city();
        for (int k = 0; k < CALLS; k++) {
            if (!one()) {
                return false;
            }
        }
        return true;
    }

    private int by(int n) {
        return random.nextInt(n);
    }

    private int near(int n) {
        return by(40) == 0 ? by(3) == 0 ? random.nextInt() : by(14) - 2 : by(Math.max(1, n));
    }

    private boolean same(String call, LongSupplier real, LongSupplier model) {
        long want = Due.answer(model);
        long got = Due.answer(real);
        log.add(call + " is " + got + ", due " + want);
        Due.same(call, want, got);
        return want == got;
    }

    private boolean put(String text) {
        byte[] bytes = text.getBytes(StandardCharsets.ISO_8859_1);
        log.add("text " + text);
        boolean good = true;
        for (int at = 0; at < bytes.length && good; at += 20) {
            int[] f = new int[5];
            for (int k = 0; k < 20; k++) {
                f[k / 4] = f[k / 4] << 8 | (at + k < bytes.length ? bytes[at + k] & 255 : 0);
            }
            good = same("feed", () -> x.feed(f[0], f[1], f[2], f[3], f[4]), () -> y.feed(f));
        }
        return good;
    }

    private boolean text(String kind, String right) {
        String text = by(3) == 0 ? spoil(right) : right;
        boolean good = put(text);
        int n = by(30) == 0 ? near(700) : text.length();
        switch (kind) {
            case "city": good &= same("city", () -> x.city(n), () -> y.city(n)); break;
            case "law": good &= same("law", () -> x.law(n), () -> y.law(n)); break;
            case "work": good &= same("work", () -> x.work(n), () -> y.work(n)); break;
            default: good &= same("book", () -> x.book(n), () -> y.book(n)); break;
        }
        return good & same("fault", () -> x.fault(), () -> y.fault());
    }

    private String spoil(String text) {
        StringBuilder all = new StringBuilder(text);
        String signs = "0123456789 ;;[](),+-*/abgst\t\u00ff";
        for (int k = 0; k < 1 + by(2); k++) {
            int at = by(all.length() + 1);
            char sign = signs.charAt(by(signs.length()));
            switch (by(4)) {
                case 0: all.insert(at, sign); break;
                case 1: all.insert(at, "  "); break;
                case 2: all.setLength(at); break;
                default:
                    if (at < all.length()) {
                        all.deleteCharAt(at);
                    }
                    break;
            }
        }
        return all.toString();
    }

    private boolean city() {
        StringBuilder all = new StringBuilder();
        boolean full = by(5) == 0;
        int towers = full ? 8 : by(10) == 0 ? by(10) : 3 + by(6);
        for (int k = 0; k < towers; k++) {
            all.append("tower ").append(by(3) == 0 ? by(41) : by(8)).append(';');
        }
        boolean[][] joined = new boolean[10][10];
        int wires = full ? 12 : by(13 + by(10) / 9);
        int told = 0;
        for (int k = 0; k < 20 * wires && told < wires && towers > 1; k++) {
            int a = by(towers);
            int b = by(towers);
            if (by(1000) > 0 && (a == b || joined[a][b])) {
                continue;
            }
            told++;
            joined[a][b] = true;
            joined[b][a] = true;
            all.append("wire ").append(a).append(' ').append(b).append(' ').append(by(10)).append(';');
        }
        int walkers = full ? 6 : by(20) == 0 ? by(8) : 1 + by(6);
        for (int k = 0; k < walkers && towers > 0; k++) {
            int nerve = by(4) == 0 ? by(41) : 8 + by(16);
            all.append("walker ").append(by(towers)).append(' ').append(nerve).append(' ');
            all.append(by(2) == 0 ? 6 : by(6)).append(';');
        }
        int letters = full ? 8 : by(20) == 0 ? by(10) : by(9);
        for (int k = 0; k < letters && towers > 0; k++) {
            all.append("letter ").append(by(towers)).append(' ').append(by(towers)).append(' ').append(by(6));
            all.append(' ').append(1 + by(9)).append(';');
        }
        return text("city", all.toString());
    }

    private String law(int open) {
        String[] values = {"slack", "rise", "load", "kind", "letters", "hum", "fog", "resin", "day"};
        int pick = by(open > 6 ? 6 : 12);
        if (pick < 3) {
            return values[by(9)];
        }
        if (pick < 6) {
            return Integer.toString(by(20) == 0 ? by(1010) : by(8));
        }
        if (pick < 9) {
            return law(open + 1) + blank() + "+-*/".charAt(by(4)) + blank() + law(open + 1);
        }
        if (pick == 9) {
            return "(" + law(open + 1) + blank() + ")";
        }
        return (pick == 10 ? "least" : "most") + blank() + "[" + law(open + 1) + "," + blank() + law(open + 1) + "]";
    }

    private String blank() {
        return by(3) == 0 ? " " : "";
    }

    private String work(int open) {
        StringBuilder all = new StringBuilder();
        int steps = by(open == 0 ? 9 : 4);
        for (int k = 0; k < steps; k++) {
            int walker = by(Math.max(1, y.told(2)));
            int letter = by(Math.max(1, y.told(3)));
            int tower = by(Math.max(1, y.told(0)));
            switch (by(11)) {
                case 0: case 1: all.append("take ").append(walker).append(' ').append(letter); break;
                case 2: all.append("give ").append(walker).append(' ').append(letter); break;
                case 3: case 4: case 5: all.append("go ").append(walker).append(' ').append(tower); break;
                case 6: all.append("slack ").append(by(Math.max(1, y.told(1)))).append(' ').append(by(10)); break;
                case 7: all.append("resin ").append(walker); break;
                case 8: all.append("fog"); break;
                case 9: all.append(by(3) == 0 ? "night" : "resin " + walker); break;
                default:
                    all.append("again ").append(by(open > 1 ? 31 : 5)).append('[');
                    all.append(open > 7 ? "" : work(open + 1)).append(']');
                    break;
            }
            all.append(';');
        }
        return all.toString();
    }

    private String book() {
        StringBuilder all = new StringBuilder();
        int wires = y.told(1);
        for (int e = 0; e < wires; e++) {
            if (by(3) == 0) {
                int size = y.told(2) > 0 && by(3) > 0 ? Math.abs(y.lean(by(y.told(2)), e, 0)) + by(8) : by(100);
                all.append(e).append(' ').append(Math.min(99, size)).append(';');
            }
        }
        return all.toString();
    }

    private boolean one() {
        int kind = by(100);
        if (kind < 2) {
            return city();
        }
        if (kind < 8) {
            return text("law", law(0));
        }
        if (kind < 26) {
            return text("work", work(0));
        }
        if (kind < 30) {
            return text("book", book());
        }
        if (kind < 34) {
            return same("undo", () -> x.undo(), () -> y.undo());
        }
        if (kind < 36) {
            return same("image", () -> x.image(), () -> y.image());
        }
        if (kind < 38) {
            return same("restore", () -> x.restore(), () -> y.restore());
        }
        return kind < 66 ? ofState() : kind < 86 ? ofWays() : ofRest();
    }

    private boolean ofState() {
        int a = near(8);
        int b = near(12);
        int what = near(7);
        switch (by(11)) {
            case 0: return same("tower " + a + " " + what % 4, () -> x.tower(a, what % 4), () -> y.tower(a, what % 4));
            case 1: return same("wire " + b + " " + what % 4, () -> x.wire(b, what % 4), () -> y.wire(b, what % 4));
            case 2: return same("walker " + a + " " + what, () -> x.walker(a, what), () -> y.walker(a, what));
            case 3: return same("letter " + a + " " + what, () -> x.letter(a, what), () -> y.letter(a, what));
            case 4: return same("between " + a + " " + b, () -> x.between(a, b), () -> y.between(a, b));
            case 5: return same("loudest", () -> x.loudest(what % 2), () -> y.loudest(what % 2));
            case 6: return same("status " + what, () -> x.status(what), () -> y.status(what));
            case 7: return same("count " + what, () -> x.count(what), () -> y.count(what));
            case 8: {
                int[] v = {near(10), near(81) - 40, near(19), near(6), near(3), near(1000), near(2), near(10),
                    near(701)};
                return same("would", () -> x.would(v[0], v[1], v[2], v[3], v[4], v[5], v[6], v[7], v[8]),
                        () -> y.would(v));
            }
            default: {
                int told = near(11);
                return same("told " + told, () -> x.told(told), () -> y.told(told));
            }
        }
    }

    private boolean ofWays() {
        int walker = near(y.told(2));
        int tower = near(y.told(0));
        int wire = near(y.told(1));
        int other = near(y.told(2));
        int letter = near(y.told(3));
        int what = near(2);
        int q = near(17);
        switch (by(10)) {
            case 0: return same("lean " + walker + " " + wire + " " + what, () -> x.lean(walker, wire, what),
                    () -> y.lean(walker, wire, what));
            case 1: return same("over " + walker + " " + wire + " " + what, () -> x.over(walker, wire, what) ? 1 : 0,
                    () -> y.over(walker, wire, what));
            case 2: return same("reach " + walker, () -> x.reach(walker), () -> y.reach(walker));
            case 3: case 4: return same("way " + walker + " " + tower + " " + what, () -> x.way(walker, tower, what),
                    () -> y.way(walker, tower, what));
            case 5: case 6: return same("send " + letter + " " + what, () -> x.send(letter, what),
                    () -> y.send(letter, what));
            case 7: return same("meet " + walker + " " + other + " " + what, () -> x.meet(walker, other, what),
                    () -> y.meet(walker, other, what));
            default: return same("likely " + walker + " " + tower + " " + q + " " + what,
                    () -> x.likely(walker, tower, q, what), () -> y.likely(walker, tower, q, what));
        }
    }

    private boolean ofRest() {
        int walker = near(y.told(2));
        int letter = near(y.told(3));
        int what = near(2);
        int q = near(17);
        int seed = by(2) == 0 ? random.nextInt() : by(100);
        switch (by(12)) {
            case 0: return same("parts " + what, () -> x.parts(what), () -> y.parts(what));
            case 1: return same("bridges", () -> x.bridges(), () -> y.bridges());
            case 2: return same("frame " + what, () -> x.frame(what), () -> y.frame(what));
            case 3: return same("fits " + walker + " " + what, () -> x.fits(walker, what), () -> y.fits(walker, what));
            case 4: return same("look " + walker + " " + what, () -> x.look(walker, what), () -> y.look(walker, what));
            case 5: return same("match", () -> x.match(), () -> y.match());
            case 6: return same("matched " + letter, () -> x.matched(letter), () -> y.matched(letter));
            case 7: {
                int most = by(2) == 0 ? 4 : 100;
                int[] v = {near(most), near(most), near(most), near(3)};
                return same("middle", () -> x.middle(v[0], v[1], v[2], v[3]), () -> y.middle(v[0], v[1], v[2], v[3]));
            }
            case 8: {
                int bits = near(1 << y.told(3));
                int n = near(1000);
                return same("share " + letter + " " + bits + " " + n, () -> x.share(letter, bits, n),
                        () -> y.share(letter, bits, n));
            }
            case 9: case 10: {
                int walks = 1 + near(96);
                int of = near(4);
                return same("season " + seed + " " + q + " " + walks + " " + of, () -> x.season(seed, q, walks, of),
                        () -> y.season(seed, q, walks, of));
            }
            default: {
                int walks = 1 + near(96);
                int many = 1 + near(20);
                int of = near(3);
                return same("span " + seed + " " + many + " " + q + " " + walks + " " + of,
                        () -> x.span(seed, many, q, walks, of), () -> y.span(seed, many, q, walks, of));
            }
        }
    }
}
