import java.util.Arrays;
import java.util.NoSuchElementException;

/** A post of walkers on wires between towers; the document's promises say what each call answers. */
public final class WirePost {
    public static final int NONE = -1;

    private static final int TAPE_MOST = 600;
    private static final int CLAUSES_MOST = 60;
    private static final int LAW_MOST = 150;
    private static final int WORK_MOST = 150;
    private static final int BOOK_MOST = 100;
    private static final int LINES_MOST = 12;

    private static final int TOWERS_MOST = 8;
    private static final int WIRES_MOST = 12;
    private static final int WALKERS_MOST = 6;
    private static final int LETTERS_MOST = 8;

    private static final int HEIGHT_MOST = 40;
    private static final int SLACK_MOST = 9;
    private static final int NERVE_MOST = 40;
    private static final int KIND_MOST = 5;
    private static final int ANY_KIND = 6;
    private static final int WEIGHT_MOST = 9;
    private static final int LEAN_MOST = 99;
    private static final int CARRY_MOST = 2;
    private static final int RESIN_MOST = 9;
    private static final int DAY_MOST = 700;
    private static final int FOG_PARTS = 16;

    private static final int OPEN_MOST = 6;
    private static final int WORKS_MOST = 16;
    private static final int IMAGES_MOST = 3;

    private static final int CANNOT_STAND = 1;
    private static final int NONE_SUCH = 2;
    private static final int TOO_MANY = 3;
    private static final int FAULT_BASE = -10;
    private static final int TOO_MANY_WORKS = -20;

    private final Tape tape;
    private final City town;
    private final City draftTown;
    private final Law rule;
    private final Law draftRule;
    private final Book lines;
    private final Book draftLines;
    private final Rounds rounds;
    private final Post post;
    private final Past past;
    private final Net net;
    private final Ways ways;
    private final Pairing pairing;
    private final Season trial;
    private int stepsRefused;
    private int elementsRefused;
    private int argumentsRefused;

    public WirePost() {
        tape = new Tape();
        town = new City();
        draftTown = new City();
        rule = new Law();
        draftRule = new Law();
        lines = new Book();
        draftLines = new Book();
        rounds = new Rounds();
        post = new Post(town, rule);
        past = new Past();
        net = new Net(town, post);
        ways = new Ways(town, post);
        pairing = new Pairing(town, ways);
        trial = new Season(town, new Post(town, rule));
    }

    public int feed(int a, int b, int c, int d, int e) {
        if (tape.held + 20 > TAPE_MOST) {
            return NONE;
        }
        tape.put(a);
        tape.put(b);
        tape.put(c);
        tape.put(d);
        tape.put(e);
        return tape.held;
    }

    public int city(int n) throws IllegalArgumentException {
        needText(n, TAPE_MOST);
        tape.open(n);
        if (!draftTown.read(tape)) {
            return FAULT_BASE + tape.faultKind;
        }
        town.copyFrom(draftTown);
        rule.clear();
        lines.clear();
        past.clear();
        post.begin();
        stepsRefused = 0;
        return town.letters;
    }

    public int law(int n) throws IllegalArgumentException {
        needText(n, LAW_MOST);
        tape.open(n);
        if (!draftRule.read(tape)) {
            return FAULT_BASE + tape.faultKind;
        }
        rule.copyFrom(draftRule);
        return 1;
    }

    public int work(int n) throws IllegalArgumentException {
        needText(n, WORK_MOST);
        tape.open(n);
        if (past.isFull()) {
            return TOO_MANY_WORKS;
        }
        if (!rounds.read(tape, town)) {
            return FAULT_BASE + tape.faultKind;
        }
        past.push(post);
        rounds.run(post);
        stepsRefused = rounds.refused;
        return rounds.done;
    }

    public int book(int n) throws IllegalArgumentException {
        needText(n, BOOK_MOST);
        tape.open(n);
        if (!draftLines.read(tape, town.wires)) {
            return FAULT_BASE + tape.faultKind;
        }
        lines.copyFrom(draftLines);
        return lines.many;
    }

    public int fault() {
        return tape.faultPlace;
    }

    public int undo() {
        if (!past.pop(post)) {
            return NONE;
        }
        stepsRefused = 0;
        return past.works;
    }

    public int told(int what) throws IllegalArgumentException {
        needRange(what, 0, 10);
        switch (what) {
            case 0: return town.towers;
            case 1: return town.wires;
            case 2: return town.walkers;
            case 3: return town.letters;
            case 4: return post.dayNow();
            case 5: return post.fogNow();
            case 6: return post.lettersThere();
            case 7: return post.walkersFallen();
            case 8: return lines.many;
            case 9: return stepsRefused;
            default: return post.walksToday();
        }
    }

    public int tower(int tower, int what) throws NoSuchElementException, IllegalArgumentException {
        needElement(tower, town.towers);
        needRange(what, 0, 3);
        switch (what) {
            case 0: return town.height[tower];
            case 1: return town.wiresFrom(tower);
            case 2: return post.walkersAt(tower);
            default: return post.lettersAt(tower);
        }
    }

    public int wire(int wire, int what) throws NoSuchElementException, IllegalArgumentException {
        needElement(wire, town.wires);
        needRange(what, 0, 3);
        switch (what) {
            case 0: return town.endA[wire];
            case 1: return town.endB[wire];
            case 2: return post.slackOf(wire);
            default: return post.humOf(wire);
        }
    }

    public int walker(int walker, int what) throws NoSuchElementException, IllegalArgumentException {
        needElement(walker, town.walkers);
        needRange(what, 0, 6);
        switch (what) {
            case 0: return post.placeOf(walker);
            case 1: return town.nerve[walker];
            case 2: return town.takes[walker];
            case 3: return post.carriedBy(walker);
            case 4: return post.resinOf(walker);
            case 5: return post.fallsOf(walker);
            default: return town.home[walker];
        }
    }

    public int letter(int letter, int what) throws NoSuchElementException, IllegalArgumentException {
        needElement(letter, town.letters);
        needRange(what, 0, 6);
        switch (what) {
            case 0: return town.source[letter];
            case 1: return town.target[letter];
            case 2: return town.kind[letter];
            case 3: return town.weight[letter];
            case 4: return post.isThere(letter) ? town.target[letter] : post.liesAt(letter);
            case 5: return post.carrierOf(letter);
            default: return post.isThere(letter) ? 1 : 0;
        }
    }

    public int between(int tower, int other) throws NoSuchElementException {
        needBoth(tower, town.towers, other, town.towers);
        return town.joining(tower, other);
    }

    public int lean(int walker, int wire, int how) throws NoSuchElementException, IllegalArgumentException {
        needBoth(walker, town.walkers, wire, town.wires);
        needRange(how, 0, 1);
        return post.leanNow(walker, wire, how);
    }

    public int would(int slack, int rise, int load, int kind, int letters, int hum, int fog, int resin, int day)
            throws IllegalArgumentException {
        boolean wire = isIn(slack, 0, SLACK_MOST) && isIn(rise, -HEIGHT_MOST, HEIGHT_MOST) && isIn(hum, 0, 999);
        boolean carried = isIn(load, 0, CARRY_MOST * WEIGHT_MOST) && isIn(kind, 0, KIND_MOST)
                && isIn(letters, 0, CARRY_MOST);
        boolean weather = isIn(fog, 0, 1) && isIn(resin, 0, RESIN_MOST) && isIn(day, 0, DAY_MOST);
        needArgument(wire && carried && weather);
        post.tellWire(slack, rise, hum);
        post.tellLoad(load, kind, letters);
        post.tellWeather(fog, resin, day);
        return post.leanAsTold();
    }

    public boolean over(int walker, int wire, int how) throws NoSuchElementException, IllegalArgumentException {
        needBoth(walker, town.walkers, wire, town.wires);
        needRange(how, 0, 1);
        return post.holds(walker, post.leanNow(walker, wire, how));
    }

    public int reach(int walker) throws NoSuchElementException {
        needElement(walker, town.walkers);
        return ways.allFrom(walker);
    }

    public int way(int walker, int tower, int what) throws NoSuchElementException, IllegalArgumentException {
        needBoth(walker, town.walkers, tower, town.towers);
        needRange(what, 0, 1);
        return what == 0 ? ways.wiresTo(walker, tower) : ways.firstTo(walker, tower);
    }

    public int send(int letter, int what) throws NoSuchElementException, IllegalArgumentException {
        needElement(letter, town.letters);
        needRange(what, 0, 1);
        int best = ways.bestFor(letter);
        return what == 0 || best == NONE ? best : ways.bringing(letter, best);
    }

    public int meet(int walker, int other, int what) throws NoSuchElementException, IllegalArgumentException {
        needBoth(walker, town.walkers, other, town.walkers);
        needRange(what, 0, 1);
        int tower = ways.meetingTower(walker, other);
        return what == 0 || tower == NONE ? tower : ways.together[tower];
    }

    public int parts(int what) throws IllegalArgumentException {
        needRange(what, 0, 1);
        return what == 0 ? net.partsBy(net.allWires()) : net.greatestPart();
    }

    public int bridges() {
        return net.bridgeBits();
    }

    public int frame(int what) throws IllegalArgumentException {
        needRange(what, 0, 1);
        int bits = net.frameBits();
        return what == 0 ? net.slackOfAll(bits) : bits;
    }

    public int fits(int walker, int what) throws NoSuchElementException, IllegalArgumentException {
        needElement(walker, town.walkers);
        needRange(what, 0, 1);
        lines.findFits(post, walker);
        return what == 0 ? lines.fitsFound : lines.firstFit();
    }

    public int look(int walker, int what) throws NoSuchElementException, IllegalArgumentException {
        needElement(walker, town.walkers);
        needRange(what, 0, 1);
        lines.findFits(post, walker);
        int best = lines.bestWire(post, walker, town.wires);
        return what == 0 || best == NONE ? best : lines.worstLeft(post, walker, best);
    }

    public int match() {
        return pairing.find();
    }

    public int matched(int letter) throws NoSuchElementException {
        needElement(letter, town.letters);
        pairing.find();
        return pairing.chosen[letter];
    }

    public long likely(int walker, int tower, int q, int part) throws NoSuchElementException, IllegalArgumentException {
        needBoth(walker, town.walkers, tower, town.towers);
        needArgument(isIn(q, 0, FOG_PARTS) && isIn(part, 0, 1));
        ways.findChance(walker, tower, q);
        return part == 0 ? ways.chanceAbove : ways.chanceBelow;
    }

    public int middle(int v, int a, int b, int what) throws IllegalArgumentException {
        needArgument(isIn(v, 0, 99) && isIn(a, 0, 99) && isIn(b, 0, 99) && isIn(what, 0, 2));
        int found = 0;
        int first = NONE;
        int together = 0;
        for (int pair = 0; pair < 4; pair++) {
            int one = pair / 2;
            int other = pair % 2;
            boolean oneStays = gain(one, other, v, a, b) >= gain(1 - one, other, v, a, b);
            boolean otherStays = gain(other, one, v, a, b) >= gain(1 - other, one, v, a, b);
            if (oneStays && otherStays) {
                if (found == 0) {
                    first = 10 * one + other;
                    together = gain(one, other, v, a, b) + gain(other, one, v, a, b);
                }
                found++;
            }
        }
        if (what == 0) {
            return found;
        }
        return what == 1 ? first : together;
    }

    public int share(int letter, int letters, int n) throws NoSuchElementException, IllegalArgumentException {
        needElement(letter, town.letters);
        needArgument(isIn(n, 0, 999) && isIn(letters, 0, (1 << town.letters) - 1));
        return town.shareOf(letter, letters, n);
    }

    public int loudest(int what) throws IllegalArgumentException {
        needRange(what, 0, 1);
        int loud = post.loudestWire();
        return what == 0 || loud == NONE ? loud : post.humOf(loud);
    }

    public int season(int seed, int q, int walks, int what) throws IllegalArgumentException {
        needSeason(q, walks);
        needRange(what, 0, 3);
        trial.run(post, seed, q, walks);
        switch (what) {
            case 0: return trial.lettersThere();
            case 1: return trial.falls;
            case 2: return trial.walksDone;
            default: return trial.nights;
        }
    }

    public int span(int seed, int many, int q, int walks, int what) throws IllegalArgumentException {
        needRange(many, 1, 20);
        needSeason(q, walks);
        needRange(what, 0, 2);
        int fewest = LETTERS_MOST;
        int most = 0;
        int unfallen = 0;
        for (int k = 0; k < many; k++) {
            trial.run(post, seed + k, q, walks);
            int there = Integer.bitCount(trial.lettersThere());
            fewest = Math.min(fewest, there);
            most = Math.max(most, there);
            unfallen += trial.falls == 0 ? 1 : 0;
        }
        if (what == 0) {
            return fewest;
        }
        return what == 1 ? most : unfallen;
    }

    public int image() {
        return past.keepImage(post) ? past.images : NONE;
    }

    public int restore() {
        if (!past.dropImage(post)) {
            return NONE;
        }
        stepsRefused = 0;
        return past.images;
    }

    public int status(int what) {
        if (what == 0) {
            return elementsRefused;
        }
        return what == 1 ? argumentsRefused : NONE;
    }

    public int count(int what) {
        switch (what) {
            case 0: return past.images;
            case 1: return tape.held;
            case 2: return past.works;
            default: return NONE;
        }
    }

    private static boolean isIn(int x, int low, int high) {
        return x >= low && x <= high;
    }

    /** What one of two on a wire has, who goes on (1) or turns (0), while the other one does so. */
    private static int gain(int own, int other, int v, int a, int b) {
        if (own == 1) {
            return other == 1 ? -a : v;
        }
        return other == 1 ? -b : 0;
    }

    private void needElement(int index, int many) throws NoSuchElementException {
        if (!isIn(index, 0, many - 1)) {
            elementsRefused++;
            throw new NoSuchElementException("no such tower, wire, walker or letter");
        }
    }

    private void needBoth(int index, int many, int other, int manyOthers) throws NoSuchElementException {
        needElement(index, many);
        needElement(other, manyOthers);
    }

    private void needArgument(boolean good) throws IllegalArgumentException {
        if (!good) {
            argumentsRefused++;
            throw new IllegalArgumentException("an argument out of its range");
        }
    }

    private void needRange(int x, int low, int high) throws IllegalArgumentException {
        needArgument(isIn(x, low, high));
    }

    private void needText(int n, int most) throws IllegalArgumentException {
        needRange(n, 0, Math.min(most, tape.held));
    }

    private void needSeason(int q, int walks) throws IllegalArgumentException {
        needArgument(isIn(q, 0, FOG_PARTS) && isIn(walks, 1, 96));
    }

    /** The TAPE, and the reading of a text on it up to the first FAULT. */
    private static final class Tape {
        private static final int NUMBER_CAP = 100_000;

        private final int[] bytes = new int[TAPE_MOST];
        private int held;
        private int length;
        private int place;
        private int start;
        private int faultKind;
        private int faultPlace = NONE;

        void put(int number) {
            for (int shift = 24; shift >= 0; shift -= 8) {
                if (held < bytes.length) {
                    bytes[held] = (number >>> shift) & 255;
                    held++;
                }
            }
        }

        /** The bytes stay readable until the next put: a text is always read within the call that opens it. */
        void open(int n) {
            length = Math.min(n, bytes.length);
            held = 0;
            place = 0;
            start = 0;
            faultKind = 0;
            faultPlace = NONE;
        }

        /** Answers false, so that a reader can end with it. */
        boolean fail(int kind, int where) {
            faultKind = kind;
            faultPlace = where;
            return false;
        }

        /** The next sign behind blanks, which stays; NONE at the end. */
        int peek() {
            while (place < length && bytes[place] == ' ') {
                place++;
            }
            return place < length ? bytes[place] : NONE;
        }

        /** Goes behind the sign that peek told. */
        void pass() {
            if (place < length) {
                place++;
            }
        }

        boolean expect(char sign) {
            if (peek() != sign) {
                return fail(CANNOT_STAND, place);
            }
            pass();
            return true;
        }

        boolean seesDigit() {
            int sign = peek();
            return sign >= '0' && sign <= '9';
        }

        /** A number from low (0 or more) to high; NONE with a FAULT. */
        int number(int low, int high) {
            if (!seesDigit()) {
                fail(CANNOT_STAND, place);
                return NONE;
            }
            start = place;
            int value = 0;
            while (place < length && bytes[place] >= '0' && bytes[place] <= '9') {
                value = Math.min(NUMBER_CAP, value * 10 + bytes[place] - '0');
                place++;
            }
            if (!isIn(value, low, high)) {
                fail(NONE_SUCH, start);
                return NONE;
            }
            return value;
        }

        /** Which word of a list (its words parted by one blank) stands here; NONE with a FAULT. */
        int word(String list) {
            peek();
            start = place;
            while (place < length && bytes[place] >= 'a' && bytes[place] <= 'z') {
                place++;
            }
            int index = 0;
            int at = 0;
            while (at < list.length()) {
                int end = wordEnd(list, at);
                if (isWord(list, at, end)) {
                    return index;
                }
                at = end + 1;
                index++;
            }
            fail(CANNOT_STAND, start);
            return NONE;
        }

        private static int wordEnd(String list, int at) {
            int end = at;
            while (end < list.length() && list.charAt(end) != ' ') {
                end++;
            }
            return end;
        }

        private boolean isWord(String list, int at, int end) {
            if (end - at != place - start) {
                return false;
            }
            for (int k = 0; k < end - at; k++) {
                if (list.charAt(at + k) != bytes[start + k]) {
                    return false;
                }
            }
            return true;
        }
    }

    /** What a CITY tells; WORK changes nothing here. */
    private static final class City {
        private static final String CLAUSES = "tower wire walker letter";

        private int towers;
        private int wires;
        private int walkers;
        private int letters;
        private final int[] height = new int[TOWERS_MOST];
        private final int[] endA = new int[WIRES_MOST];
        private final int[] endB = new int[WIRES_MOST];
        private final int[] slackTold = new int[WIRES_MOST];
        private final int[] home = new int[WALKERS_MOST];
        private final int[] nerve = new int[WALKERS_MOST];
        private final int[] takes = new int[WALKERS_MOST];
        private final int[] source = new int[LETTERS_MOST];
        private final int[] target = new int[LETTERS_MOST];
        private final int[] kind = new int[LETTERS_MOST];
        private final int[] weight = new int[LETTERS_MOST];

        void copyFrom(City other) {
            towers = other.towers;
            wires = other.wires;
            walkers = other.walkers;
            letters = other.letters;
            System.arraycopy(other.height, 0, height, 0, TOWERS_MOST);
            System.arraycopy(other.endA, 0, endA, 0, WIRES_MOST);
            System.arraycopy(other.endB, 0, endB, 0, WIRES_MOST);
            System.arraycopy(other.slackTold, 0, slackTold, 0, WIRES_MOST);
            System.arraycopy(other.home, 0, home, 0, WALKERS_MOST);
            System.arraycopy(other.nerve, 0, nerve, 0, WALKERS_MOST);
            System.arraycopy(other.takes, 0, takes, 0, WALKERS_MOST);
            System.arraycopy(other.source, 0, source, 0, LETTERS_MOST);
            System.arraycopy(other.target, 0, target, 0, LETTERS_MOST);
            System.arraycopy(other.kind, 0, kind, 0, LETTERS_MOST);
            System.arraycopy(other.weight, 0, weight, 0, LETTERS_MOST);
        }

        boolean read(Tape tape) {
            towers = 0;
            wires = 0;
            walkers = 0;
            letters = 0;
            for (int clauses = 0; clauses <= CLAUSES_MOST; clauses++) {
                if (tape.peek() == NONE) {
                    return true;
                }
                int word = tape.word(CLAUSES);
                if (word == NONE) {
                    return false;
                }
                if (clauses == CLAUSES_MOST || isFull(word)) {
                    return tape.fail(TOO_MANY, tape.start);
                }
                if (!readClause(tape, word) || !tape.expect(';')) {
                    return false;
                }
            }
            return false;
        }

        private boolean isFull(int word) {
            switch (word) {
                case 0: return towers >= TOWERS_MOST;
                case 1: return wires >= WIRES_MOST;
                case 2: return walkers >= WALKERS_MOST;
                default: return letters >= LETTERS_MOST;
            }
        }

        private boolean readClause(Tape tape, int word) {
            switch (word) {
                case 0: return readTower(tape);
                case 1: return readWire(tape);
                case 2: return readWalker(tape);
                default: return readLetter(tape);
            }
        }

        private boolean readTower(Tape tape) {
            height[towers] = tape.number(0, HEIGHT_MOST);
            if (height[towers] == NONE) {
                return false;
            }
            towers++;
            return true;
        }

        private boolean readWire(Tape tape) {
            int a = tape.number(0, towers - 1);
            if (a == NONE) {
                return false;
            }
            int b = tape.number(0, towers - 1);
            if (b == NONE) {
                return false;
            }
            if (a == b || joining(a, b) != NONE) {
                return tape.fail(NONE_SUCH, tape.start);
            }
            int slack = tape.number(0, SLACK_MOST);
            if (slack == NONE) {
                return false;
            }
            endA[wires] = a;
            endB[wires] = b;
            slackTold[wires] = slack;
            wires++;
            return true;
        }

        private boolean readWalker(Tape tape) {
            home[walkers] = tape.number(0, towers - 1);
            if (home[walkers] == NONE) {
                return false;
            }
            nerve[walkers] = tape.number(0, NERVE_MOST);
            if (nerve[walkers] == NONE) {
                return false;
            }
            takes[walkers] = tape.number(0, ANY_KIND);
            if (takes[walkers] == NONE) {
                return false;
            }
            walkers++;
            return true;
        }

        private boolean readLetter(Tape tape) {
            source[letters] = tape.number(0, towers - 1);
            if (source[letters] == NONE) {
                return false;
            }
            target[letters] = tape.number(0, towers - 1);
            if (target[letters] == NONE) {
                return false;
            }
            kind[letters] = tape.number(0, KIND_MOST);
            if (kind[letters] == NONE) {
                return false;
            }
            weight[letters] = tape.number(1, WEIGHT_MOST);
            if (weight[letters] == NONE) {
                return false;
            }
            letters++;
            return true;
        }

        int joining(int tower, int other) {
            for (int e = 0; e < wires; e++) {
                boolean there = endA[e] == tower && endB[e] == other;
                boolean back = endA[e] == other && endB[e] == tower;
                if (there || back) {
                    return e;
                }
            }
            return NONE;
        }

        int wiresFrom(int tower) {
            int bits = 0;
            for (int e = 0; e < wires; e++) {
                if (endA[e] == tower || endB[e] == tower) {
                    bits |= 1 << e;
                }
            }
            return bits;
        }

        boolean suits(int walker, int letter) {
            return takes[walker] == ANY_KIND || takes[walker] == kind[letter];
        }

        int shareOf(int letter, int bits, int n) {
            int all = 0;
            for (int k = 0; k < letters; k++) {
                all += (bits >> k & 1) * weight[k];
            }
            if ((bits >> letter & 1) == 0 || all <= 0) {
                return 0;
            }
            int left = n;
            int ahead = 0;
            int own = n * weight[letter] % all;
            for (int k = 0; k < letters; k++) {
                if ((bits >> k & 1) == 1) {
                    left -= n * weight[k] / all;
                    int rest = n * weight[k] % all;
                    ahead += rest > own || (rest == own && k < letter) ? 1 : 0;
                }
            }
            return n * weight[letter] / all + (ahead < left ? 1 : 0);
        }
    }

    /** A LAW, kept as steps on a stack, because it is asked far more often than it is told. */
    private static final class Law {
        private static final String WORDS = "slack rise load kind letters hum fog resin day least most";
        private static final int SLACK = 0;
        private static final int RISE = 1;
        private static final int LOAD = 2;
        private static final int KIND = 3;
        private static final int LETTERS = 4;
        private static final int HUM = 5;
        private static final int FOG = 6;
        private static final int RESIN = 7;
        private static final int DAY = 8;
        private static final int VALUES = 9;

        private static final int NUMBER_MOST = 999;
        private static final int FIRST_VALUE = 1000;
        private static final int PLUS = 2000;
        private static final int MINUS = 2001;
        private static final int TIMES = 2002;
        private static final int BY = 2003;
        private static final int LEAST = 2004;
        private static final int MOST = 2005;
        private static final int[] WITHOUT = {
            FIRST_VALUE + SLACK, 2, TIMES, FIRST_VALUE + LOAD, PLUS, FIRST_VALUE + KIND, PLUS
        };

        private final int[] code = new int[LAW_MOST];
        private int size = WITHOUT.length;
        // Each of six open brackets holds three values back at most, and so does the sum outside them.
        private final int[] stack = new int[3 * (OPEN_MOST + 1)];

        Law() {
            System.arraycopy(WITHOUT, 0, code, 0, WITHOUT.length);
        }

        void clear() {
            System.arraycopy(WITHOUT, 0, code, 0, WITHOUT.length);
            size = WITHOUT.length;
        }

        void copyFrom(Law other) {
            System.arraycopy(other.code, 0, code, 0, LAW_MOST);
            size = other.size;
        }

        boolean read(Tape tape) {
            size = 0;
            if (!readSum(tape, 0)) {
                return false;
            }
            return tape.peek() == NONE || tape.fail(CANNOT_STAND, tape.place);
        }

        private void emit(int step) {
            if (size < code.length) {
                code[size] = step;
                size++;
            }
        }

        private boolean readSum(Tape tape, int open) {
            if (!readProduct(tape, open)) {
                return false;
            }
            for (int terms = 0; terms < LAW_MOST; terms++) {
                int sign = tape.peek();
                if (sign != '+' && sign != '-') {
                    return true;
                }
                tape.pass();
                if (!readProduct(tape, open)) {
                    return false;
                }
                emit(sign == '+' ? PLUS : MINUS);
            }
            return true;
        }

        private boolean readProduct(Tape tape, int open) {
            if (!readUnit(tape, open)) {
                return false;
            }
            for (int factors = 0; factors < LAW_MOST; factors++) {
                int sign = tape.peek();
                if (sign != '*' && sign != '/') {
                    return true;
                }
                tape.pass();
                if (!readUnit(tape, open)) {
                    return false;
                }
                emit(sign == '*' ? TIMES : BY);
            }
            return true;
        }

        private boolean readUnit(Tape tape, int open) {
            if (tape.seesDigit()) {
                int number = tape.number(0, NUMBER_MOST);
                emit(number);
                return number != NONE;
            }
            if (tape.peek() == '(') {
                return readBracket(tape, open);
            }
            int word = tape.word(WORDS);
            if (word == NONE) {
                return false;
            }
            if (word < VALUES) {
                emit(FIRST_VALUE + word);
                return true;
            }
            return readChoice(tape, open, word == VALUES ? LEAST : MOST);
        }

        private boolean readBracket(Tape tape, int open) {
            if (open >= OPEN_MOST) {
                return tape.fail(TOO_MANY, tape.place);
            }
            return tape.expect('(') && readSum(tape, open + 1) && tape.expect(')');
        }

        private boolean readChoice(Tape tape, int open, int step) {
            if (open >= OPEN_MOST) {
                return tape.fail(TOO_MANY, tape.start);
            }
            if (!tape.expect('[') || !readSum(tape, open + 1) || !tape.expect(',')) {
                return false;
            }
            if (!readSum(tape, open + 1) || !tape.expect(']')) {
                return false;
            }
            emit(step);
            return true;
        }

        int leanBy(int[] values) {
            int top = 0;
            for (int at = 0; at < size; at++) {
                int step = code[at];
                if (step >= PLUS) {
                    if (top >= 2) {
                        top--;
                        stack[top - 1] = apply(step, stack[top - 1], stack[top]);
                    }
                } else if (top < stack.length) {
                    stack[top] = step < FIRST_VALUE ? step : values[step - FIRST_VALUE];
                    top++;
                }
            }
            int out = top > 0 ? stack[0] : 0;
            return Math.max(-LEAN_MOST, Math.min(LEAN_MOST, out));
        }

        private static int apply(int step, int x, int y) {
            switch (step) {
                case PLUS: return x + y;
                case MINUS: return x - y;
                case TIMES: return x * y;
                case BY: return y == 0 ? 0 : x / y;
                case LEAST: return Math.min(x, y);
                default: return Math.max(x, y);
            }
        }
    }

    /** The lines of a BOOK, and what they leave open of a letter. */
    private static final class Book {
        private static final int PAIRS = (KIND_MOST + 1) * WEIGHT_MOST;

        private final int[] seen = new int[WIRES_MOST];
        private int many;
        private final boolean[] isFit = new boolean[PAIRS];
        private int fitsFound;
        private final int[] bySize = new int[LEAN_MOST + 1];

        Book() {
            Arrays.fill(seen, NONE);
        }

        void clear() {
            Arrays.fill(seen, NONE);
            many = 0;
        }

        void copyFrom(Book other) {
            System.arraycopy(other.seen, 0, seen, 0, WIRES_MOST);
            many = other.many;
        }

        boolean read(Tape tape, int wires) {
            clear();
            for (int read = 0; read <= LINES_MOST; read++) {
                if (tape.peek() == NONE) {
                    return true;
                }
                int wire = tape.number(0, wires - 1);
                if (wire == NONE) {
                    return false;
                }
                if (seen[wire] != NONE) {
                    return tape.fail(NONE_SUCH, tape.start);
                }
                if (read == LINES_MOST) {
                    return tape.fail(TOO_MANY, tape.start);
                }
                int size = tape.number(0, LEAN_MOST);
                if (size == NONE || !tape.expect(';')) {
                    return false;
                }
                seen[wire] = size;
                many++;
            }
            return false;
        }

        void findFits(Post post, int walker) {
            fitsFound = 0;
            for (int pair = 0; pair < PAIRS; pair++) {
                isFit[pair] = true;
                for (int wire = 0; wire < WIRES_MOST; wire++) {
                    if (seen[wire] != NONE && seen[wire] != sizeBy(post, walker, wire, pair)) {
                        isFit[pair] = false;
                    }
                }
                fitsFound += isFit[pair] ? 1 : 0;
            }
        }

        private static int sizeBy(Post post, int walker, int wire, int pair) {
            return Math.abs(post.leanWithOne(walker, wire, pair / WEIGHT_MOST, pair % WEIGHT_MOST + 1));
        }

        int firstFit() {
            for (int pair = 0; pair < PAIRS; pair++) {
                if (isFit[pair]) {
                    return 10 * (pair / WEIGHT_MOST) + pair % WEIGHT_MOST + 1;
                }
            }
            return NONE;
        }

        /** How many of the found fits are left at the worst, once the wire has been looked at. */
        int worstLeft(Post post, int walker, int wire) {
            Arrays.fill(bySize, 0);
            int worst = 0;
            for (int pair = 0; pair < PAIRS; pair++) {
                if (isFit[pair]) {
                    int size = sizeBy(post, walker, wire, pair);
                    bySize[size]++;
                    worst = Math.max(worst, bySize[size]);
                }
            }
            return worst;
        }

        int bestWire(Post post, int walker, int wires) {
            int best = NONE;
            int bestLeft = PAIRS + 1;
            for (int wire = 0; wire < wires; wire++) {
                if (seen[wire] == NONE) {
                    int left = worstLeft(post, walker, wire);
                    if (left < bestLeft) {
                        best = wire;
                        bestLeft = left;
                    }
                }
            }
            return best;
        }
    }

    /** All that WORK changes, in one row of cells, so that undo and images copy rows alone. */
    private static final class Post {
        private static final int DAY = 0;
        private static final int FOG = 1;
        private static final int SLACK = 2;
        private static final int HUM = SLACK + WIRES_MOST;
        private static final int PLACE = HUM + WIRES_MOST;
        private static final int RESIN = PLACE + WALKERS_MOST;
        private static final int FALLS = RESIN + WALKERS_MOST;
        private static final int LETTER = FALLS + WALKERS_MOST;
        private static final int CELLS = LETTER + LETTERS_MOST;

        // A letter's cell: the tower where it lies, CARRIED and the walker, or THERE.
        private static final int CARRIED = TOWERS_MOST;
        private static final int THERE = CARRIED + WALKERS_MOST;

        private final City town;
        private final Law rule;
        private final int[] cells = new int[CELLS];
        private final int[] values = new int[Law.VALUES];

        Post(City town, Law rule) {
            this.town = town;
            this.rule = rule;
        }

        void begin() {
            Arrays.fill(cells, 0);
            System.arraycopy(town.slackTold, 0, cells, SLACK, WIRES_MOST);
            System.arraycopy(town.home, 0, cells, PLACE, WALKERS_MOST);
            System.arraycopy(town.source, 0, cells, LETTER, LETTERS_MOST);
        }

        void copyFrom(Post other) {
            System.arraycopy(other.cells, 0, cells, 0, CELLS);
        }

        int dayNow() {
            return cells[DAY];
        }

        int fogNow() {
            return cells[FOG];
        }

        int slackOf(int wire) {
            return cells[SLACK + wire];
        }

        int humOf(int wire) {
            return cells[HUM + wire];
        }

        int placeOf(int walker) {
            return cells[PLACE + walker];
        }

        int resinOf(int walker) {
            return cells[RESIN + walker];
        }

        int fallsOf(int walker) {
            return cells[FALLS + walker];
        }

        boolean hasFallen(int walker) {
            return placeOf(walker) == NONE;
        }

        boolean isThere(int letter) {
            return cells[LETTER + letter] == THERE;
        }

        int liesAt(int letter) {
            int cell = cells[LETTER + letter];
            return cell < CARRIED ? cell : NONE;
        }

        int carrierOf(int letter) {
            int cell = cells[LETTER + letter];
            return cell >= CARRIED && cell < THERE ? cell - CARRIED : NONE;
        }

        int lettersThere() {
            int bits = 0;
            for (int k = 0; k < town.letters; k++) {
                bits |= isThere(k) ? 1 << k : 0;
            }
            return bits;
        }

        int lettersAt(int tower) {
            int bits = 0;
            for (int k = 0; k < town.letters; k++) {
                bits |= liesAt(k) == tower ? 1 << k : 0;
            }
            return bits;
        }

        int carriedBy(int walker) {
            int bits = 0;
            for (int k = 0; k < town.letters; k++) {
                bits |= carrierOf(k) == walker ? 1 << k : 0;
            }
            return bits;
        }

        int walkersAt(int tower) {
            int bits = 0;
            for (int k = 0; k < town.walkers; k++) {
                bits |= placeOf(k) == tower ? 1 << k : 0;
            }
            return bits;
        }

        int walkersFallen() {
            return walkersAt(NONE);
        }

        int walksToday() {
            int walks = 0;
            for (int e = 0; e < town.wires; e++) {
                walks += humOf(e);
            }
            return walks;
        }

        int loudestWire() {
            int loud = NONE;
            for (int e = 0; e < town.wires; e++) {
                if (humOf(e) > (loud == NONE ? 0 : humOf(loud))) {
                    loud = e;
                }
            }
            return loud;
        }

        void tellWire(int slack, int rise, int hum) {
            values[Law.SLACK] = slack;
            values[Law.RISE] = rise;
            values[Law.HUM] = hum;
        }

        void tellLoad(int load, int kind, int letters) {
            values[Law.LOAD] = load;
            values[Law.KIND] = kind;
            values[Law.LETTERS] = letters;
        }

        void tellWeather(int fog, int resin, int day) {
            values[Law.FOG] = fog;
            values[Law.RESIN] = resin;
            values[Law.DAY] = day;
        }

        int leanAsTold() {
            return rule.leanBy(values);
        }

        private void tellWalk(int walker, int wire, int how, int fog) {
            int rise = town.height[town.endB[wire]] - town.height[town.endA[wire]];
            tellWire(slackOf(wire), how == 0 ? rise : -rise, humOf(wire));
            tellWeather(fog, resinOf(walker), dayNow());
        }

        private void tellLetters(int bits) {
            int load = 0;
            int kind = 0;
            for (int k = 0; k < town.letters; k++) {
                if ((bits >> k & 1) == 1) {
                    load += town.weight[k];
                    kind = Math.max(kind, town.kind[k]);
                }
            }
            tellLoad(load, kind, Integer.bitCount(bits));
        }

        int leanNow(int walker, int wire, int how) {
            return leanInFog(walker, wire, how, fogNow());
        }

        int leanInFog(int walker, int wire, int how, int fog) {
            tellWalk(walker, wire, how, fog);
            tellLetters(carriedBy(walker));
            return rule.leanBy(values);
        }

        int leanWith(int walker, int wire, int how, int bits) {
            tellWalk(walker, wire, how, fogNow());
            tellLetters(bits);
            return rule.leanBy(values);
        }

        int leanWithOne(int walker, int wire, int kind, int weight) {
            tellWalk(walker, wire, 0, fogNow());
            tellLoad(weight, kind, 1);
            return rule.leanBy(values);
        }

        boolean holds(int walker, int lean) {
            return Math.abs(lean) <= town.nerve[walker];
        }

        boolean pickUp(int walker, int letter) {
            boolean lies = !hasFallen(walker) && liesAt(letter) == placeOf(walker);
            if (!lies || !town.suits(walker, letter) || Integer.bitCount(carriedBy(walker)) >= CARRY_MOST) {
                return false;
            }
            cells[LETTER + letter] = CARRIED + walker;
            return true;
        }

        boolean handOver(int walker, int letter) {
            if (carrierOf(letter) != walker) {
                return false;
            }
            int tower = placeOf(walker);
            cells[LETTER + letter] = tower == town.target[letter] ? THERE : tower;
            return true;
        }

        boolean walkTo(int walker, int tower) {
            int from = placeOf(walker);
            int wire = from == NONE ? NONE : town.joining(from, tower);
            if (wire == NONE) {
                return false;
            }
            int lean = leanInFog(walker, wire, town.endA[wire] == from ? 0 : 1, fogNow());
            cells[HUM + wire]++;
            if (holds(walker, lean)) {
                cells[PLACE + walker] = tower;
            } else {
                handOverAll(walker);
                cells[PLACE + walker] = NONE;
                cells[FALLS + walker]++;
            }
            return true;
        }

        void handOverAll(int walker) {
            for (int k = 0; k < town.letters; k++) {
                handOver(walker, k);
            }
        }

        void pickUpAll(int walker) {
            for (int k = 0; k < town.letters; k++) {
                pickUp(walker, k);
            }
        }

        boolean putSlack(int wire, int slack) {
            if (slackOf(wire) == slack) {
                return false;
            }
            cells[SLACK + wire] = slack;
            return true;
        }

        boolean putResin(int walker) {
            if (hasFallen(walker) || resinOf(walker) >= RESIN_MOST) {
                return false;
            }
            cells[RESIN + walker]++;
            return true;
        }

        boolean turnFog() {
            cells[FOG] = 1 - cells[FOG];
            return true;
        }

        boolean nightUpTo(int lastDay) {
            if (dayNow() >= lastDay) {
                return false;
            }
            nightfall();
            return true;
        }

        void nightfall() {
            cells[DAY]++;
            cells[FOG] = 0;
            for (int e = 0; e < town.wires; e++) {
                cells[HUM + e] = 0;
            }
            for (int k = 0; k < town.walkers; k++) {
                cells[RESIN + k] = 0;
                if (hasFallen(k)) {
                    cells[PLACE + k] = town.home[k];
                }
            }
        }
    }

    /** A WORK that was read, with its loops as jumps, and the doing of it. */
    private static final class Rounds {
        private static final String STEPS = "take give go slack resin fog night again";
        private static final int TAKE = 0;
        private static final int GIVE = 1;
        private static final int GO = 2;
        private static final int SLACK = 3;
        private static final int RESIN = 4;
        private static final int FOG = 5;
        private static final int NIGHT = 6;
        private static final int AGAIN = 7;
        private static final int CLOSE = 8;

        private static final int TIMES_MOST = 30;
        private static final int BEGUN_MOST = 200;
        private static final int BEATS_MOST = 1_000_000;

        private final int[] step = new int[WORK_MOST];
        private final int[] first = new int[WORK_MOST];
        private final int[] second = new int[WORK_MOST];
        private final int[] timesLeft = new int[WORK_MOST];
        private final int[] opened = new int[OPEN_MOST];
        private int size;
        private int open;
        private int done;
        private int refused;

        boolean read(Tape tape, City town) {
            size = 0;
            open = 0;
            for (int steps = 0; steps < WORK_MOST; steps++) {
                int sign = tape.peek();
                if (sign == NONE && open == 0) {
                    return true;
                }
                boolean good = sign == ']' && open > 0 ? readClose(tape) : readStep(tape, town);
                if (!good) {
                    return false;
                }
            }
            return true;
        }

        private boolean readClose(Tape tape) {
            tape.pass();
            open--;
            int again = opened[open];
            second[again] = size;
            return add(CLOSE, again, 0) && tape.expect(';');
        }

        private boolean add(int word, int x, int y) {
            if (x == NONE || y == NONE || size >= step.length) {
                return false;
            }
            step[size] = word;
            first[size] = x;
            second[size] = y;
            size++;
            return true;
        }

        private boolean readStep(Tape tape, City town) {
            int word = tape.word(STEPS);
            switch (word) {
                case NONE: return false;
                case AGAIN: return readAgain(tape);
                case FOG:
                case NIGHT: return add(word, 0, 0) && tape.expect(';');
                default: return readNumbers(tape, town, word) && tape.expect(';');
            }
        }

        private boolean readNumbers(Tape tape, City town, int word) {
            int x = tape.number(0, (word == SLACK ? town.wires : town.walkers) - 1);
            if (x == NONE || word == RESIN) {
                return add(word, x, 0);
            }
            switch (word) {
                case GO: return add(word, x, tape.number(0, town.towers - 1));
                case SLACK: return add(word, x, tape.number(0, SLACK_MOST));
                default: return add(word, x, tape.number(0, town.letters - 1));
            }
        }

        private boolean readAgain(Tape tape) {
            if (open >= OPEN_MOST) {
                return tape.fail(TOO_MANY, tape.start);
            }
            int times = tape.number(0, TIMES_MOST);
            if (times == NONE || !tape.expect('[')) {
                return false;
            }
            opened[open] = size;
            open++;
            return add(AGAIN, times, 0);
        }

        void run(Post post) {
            done = 0;
            refused = 0;
            int begun = 0;
            int at = 0;
            for (int beat = 0; beat < BEATS_MOST && at < size; beat++) {
                if (step[at] == CLOSE) {
                    at = behindClose(at);
                } else if (begun >= BEGUN_MOST) {
                    return;
                } else if (step[at] == AGAIN) {
                    begun++;
                    timesLeft[at] = first[at];
                    at = first[at] > 0 ? at + 1 : second[at] + 1;
                } else {
                    begun++;
                    if (doStep(post, at)) {
                        done++;
                    } else {
                        refused++;
                    }
                    at++;
                }
            }
        }

        private int behindClose(int at) {
            int again = first[at];
            timesLeft[again]--;
            return timesLeft[again] > 0 ? again + 1 : at + 1;
        }

        private boolean doStep(Post post, int at) {
            int x = first[at];
            int y = second[at];
            switch (step[at]) {
                case TAKE: return post.pickUp(x, y);
                case GIVE: return post.handOver(x, y);
                case GO: return post.walkTo(x, y);
                case SLACK: return post.putSlack(x, y);
                case RESIN: return post.putResin(x);
                case FOG: return post.turnFog();
                default: return post.nightUpTo(DAY_MOST);
            }
        }
    }

    /** The rows behind the WORKS that can be undone, and the IMAGES. */
    private static final class Past {
        private static final int ROWS = WORKS_MOST * Post.CELLS;

        private final int[] rows = new int[ROWS];
        private int works;
        private final int[] imageRows = new int[IMAGES_MOST * ROWS];
        private final int[] imageCells = new int[IMAGES_MOST * Post.CELLS];
        private final int[] imageWorks = new int[IMAGES_MOST];
        private int images;

        void clear() {
            works = 0;
            images = 0;
        }

        boolean isFull() {
            return works >= WORKS_MOST;
        }

        void push(Post post) {
            if (!isFull()) {
                System.arraycopy(post.cells, 0, rows, works * Post.CELLS, Post.CELLS);
                works++;
            }
        }

        boolean pop(Post post) {
            if (works <= 0) {
                return false;
            }
            works--;
            System.arraycopy(rows, works * Post.CELLS, post.cells, 0, Post.CELLS);
            return true;
        }

        boolean keepImage(Post post) {
            if (images >= IMAGES_MOST) {
                return false;
            }
            System.arraycopy(post.cells, 0, imageCells, images * Post.CELLS, Post.CELLS);
            System.arraycopy(rows, 0, imageRows, images * ROWS, works * Post.CELLS);
            imageWorks[images] = works;
            images++;
            return true;
        }

        boolean dropImage(Post post) {
            if (images <= 0) {
                return false;
            }
            images--;
            works = imageWorks[images];
            System.arraycopy(imageCells, images * Post.CELLS, post.cells, 0, Post.CELLS);
            System.arraycopy(imageRows, images * ROWS, rows, 0, works * Post.CELLS);
            return true;
        }
    }

    /** What hangs together by WIRES, whoever could walk them. */
    private static final class Net {
        private final City town;
        private final Post post;

        Net(City town, Post post) {
            this.town = town;
            this.post = post;
        }

        int allWires() {
            return (1 << town.wires) - 1;
        }

        private int partOf(int tower, int wires) {
            int part = 1 << tower;
            for (int round = 0; round < TOWERS_MOST; round++) {
                for (int e = 0; e < town.wires; e++) {
                    int ends = 1 << town.endA[e] | 1 << town.endB[e];
                    if ((wires >> e & 1) == 1 && (part & ends) != 0) {
                        part |= ends;
                    }
                }
            }
            return part;
        }

        int partsBy(int wires) {
            int parts = 0;
            int seen = 0;
            for (int k = 0; k < town.towers; k++) {
                if ((seen >> k & 1) == 0) {
                    seen |= partOf(k, wires);
                    parts++;
                }
            }
            return parts;
        }

        int greatestPart() {
            int greatest = 0;
            for (int k = 0; k < town.towers; k++) {
                greatest = Math.max(greatest, Integer.bitCount(partOf(k, allWires())));
            }
            return greatest;
        }

        int bridgeBits() {
            int bits = 0;
            int parts = partsBy(allWires());
            for (int e = 0; e < town.wires; e++) {
                if (partsBy(allWires() & ~(1 << e)) > parts) {
                    bits |= 1 << e;
                }
            }
            return bits;
        }

        /** Wires by slack, then by number: greedily that leaves the least slack, and of alike sets the least bits. */
        int frameBits() {
            int bits = 0;
            for (int slack = 0; slack <= SLACK_MOST; slack++) {
                for (int e = 0; e < town.wires; e++) {
                    boolean apart = (partOf(town.endA[e], bits) >> town.endB[e] & 1) == 0;
                    if (post.slackOf(e) == slack && apart) {
                        bits |= 1 << e;
                    }
                }
            }
            return bits;
        }

        int slackOfAll(int wires) {
            int slack = 0;
            for (int e = 0; e < town.wires; e++) {
                slack += (wires >> e & 1) * post.slackOf(e);
            }
            return slack;
        }
    }

    /** WAYS of a WALKER, and what is made of them. */
    private static final class Ways {
        private final City town;
        private final Post post;
        // To which towers one wire leads from each, for the walker and the letters that were asked for last.
        private final int[] next = new int[TOWERS_MOST];
        private final int[] together = new int[TOWERS_MOST];
        private long chanceAbove;
        private long chanceBelow;

        Ways(City town, Post post) {
            this.town = town;
            this.post = post;
        }

        private void ready(int walker, int letters) {
            Arrays.fill(next, 0);
            for (int e = 0; e < town.wires; e++) {
                int a = town.endA[e];
                int b = town.endB[e];
                if (post.holds(walker, post.leanWith(walker, e, 0, letters))) {
                    next[a] |= 1 << b;
                }
                if (post.holds(walker, post.leanWith(walker, e, 1, letters))) {
                    next[b] |= 1 << a;
                }
            }
        }

        private void readyAsHeIs(int walker) {
            ready(walker, post.carriedBy(walker));
        }

        private int spread(int towers) {
            int bits = towers;
            for (int k = 0; k < town.towers; k++) {
                bits |= (towers >> k & 1) == 1 ? next[k] : 0;
            }
            return bits;
        }

        private int hops(int from, int to) {
            if (from == NONE) {
                return NONE;
            }
            int towers = 1 << from;
            for (int wires = 0; wires < TOWERS_MOST; wires++) {
                if ((towers >> to & 1) == 1) {
                    return wires;
                }
                towers = spread(towers);
            }
            return NONE;
        }

        private int firstHop(int from, int to) {
            int wires = hops(from, to);
            for (int k = 0; k < town.towers && wires > 0; k++) {
                if ((next[from] >> k & 1) == 1 && hops(k, to) == wires - 1) {
                    return k;
                }
            }
            return NONE;
        }

        int allFrom(int walker) {
            if (post.hasFallen(walker)) {
                return 0;
            }
            readyAsHeIs(walker);
            int towers = 1 << post.placeOf(walker);
            for (int wires = 0; wires < TOWERS_MOST; wires++) {
                towers = spread(towers);
            }
            return towers;
        }

        int wiresTo(int walker, int tower) {
            readyAsHeIs(walker);
            return hops(post.placeOf(walker), tower);
        }

        int firstTo(int walker, int tower) {
            readyAsHeIs(walker);
            return firstHop(post.placeOf(walker), tower);
        }

        /** How many wires a walker needs to fetch a letter and bring it; NONE: he can't. */
        int bringing(int letter, int walker) {
            int lies = post.liesAt(letter);
            boolean free = !post.hasFallen(walker) && post.carriedBy(walker) == 0;
            if (lies == NONE || !free || !town.suits(walker, letter)) {
                return NONE;
            }
            ready(walker, 0);
            int there = hops(post.placeOf(walker), lies);
            if (there == NONE) {
                return NONE;
            }
            ready(walker, 1 << letter);
            int on = hops(lies, town.target[letter]);
            return on == NONE ? NONE : there + on;
        }

        int bestFor(int letter) {
            int best = NONE;
            int fewest = NONE;
            for (int k = 0; k < town.walkers; k++) {
                int wires = bringing(letter, k);
                if (wires != NONE && (best == NONE || wires < fewest)) {
                    best = k;
                    fewest = wires;
                }
            }
            return best;
        }

        int meetingTower(int walker, int other) {
            for (int k = 0; k < town.towers; k++) {
                together[k] = 0;
            }
            addWays(walker);
            addWays(other);
            int best = NONE;
            for (int k = 0; k < town.towers; k++) {
                if (together[k] != NONE && (best == NONE || together[k] < together[best])) {
                    best = k;
                }
            }
            return best;
        }

        private void addWays(int walker) {
            ready(walker, post.carriedBy(walker));
            for (int k = 0; k < town.towers; k++) {
                int wires = hops(post.placeOf(walker), k);
                together[k] = wires == NONE || together[k] == NONE ? NONE : together[k] + wires;
            }
        }

        void findChance(int walker, int tower, int q) {
            readyAsHeIs(walker);
            int at = post.placeOf(walker);
            int wires = hops(at, tower);
            chanceAbove = wires == NONE ? 0 : 1;
            chanceBelow = 1;
            for (int k = 0; k < wires; k++) {
                int to = firstHop(at, tower);
                chanceAbove *= partsOver(walker, at, to, q);
                chanceBelow *= FOG_PARTS;
                at = to;
            }
            // What is below is a power of two, so halving is all that least terms take.
            for (int k = 0; k < 4 * TOWERS_MOST && chanceBelow > 1 && chanceAbove % 2 == 0; k++) {
                chanceAbove /= 2;
                chanceBelow /= 2;
            }
        }

        /** Of sixteen parts, those by which he comes over one wire of his way. */
        private int partsOver(int walker, int from, int to, int q) {
            int wire = from == NONE || to == NONE ? NONE : town.joining(from, to);
            if (wire == NONE) {
                return 0;
            }
            int how = town.endA[wire] == from ? 0 : 1;
            int clear = post.holds(walker, post.leanInFog(walker, wire, how, 0)) ? FOG_PARTS - q : 0;
            int foggy = post.holds(walker, post.leanInFog(walker, wire, how, 1)) ? q : 0;
            return clear + foggy;
        }
    }

    /** MATCH, from the last letter to the first over the sets of walkers that are taken. */
    private static final class Pairing {
        private static final int SETS = 1 << WALKERS_MOST;

        private final City town;
        private final Ways ways;
        private final int[] able = new int[LETTERS_MOST];
        private final int[] most = new int[(LETTERS_MOST + 1) * SETS];
        private final int[] chosen = new int[LETTERS_MOST];

        Pairing(City town, Ways ways) {
            this.town = town;
            this.ways = ways;
        }

        int find() {
            for (int letter = 0; letter < town.letters; letter++) {
                able[letter] = 0;
                for (int k = 0; k < town.walkers; k++) {
                    able[letter] |= ways.bringing(letter, k) != NONE ? 1 << k : 0;
                }
            }
            Arrays.fill(most, 0);
            for (int letter = town.letters - 1; letter >= 0; letter--) {
                for (int taken = 0; taken < SETS; taken++) {
                    fill(letter, taken);
                }
            }
            choose();
            return most[0];
        }

        private boolean isAble(int letter, int walker, int taken) {
            return ((able[letter] & ~taken) >> walker & 1) == 1;
        }

        /** How many letters from this one on can be given, if it goes to a walker. */
        private int givenBy(int letter, int walker, int taken) {
            return 1 + most[(letter + 1) * SETS + (taken | 1 << walker)];
        }

        private void fill(int letter, int taken) {
            int best = most[(letter + 1) * SETS + taken];
            for (int k = 0; k < WALKERS_MOST; k++) {
                if (isAble(letter, k, taken)) {
                    best = Math.max(best, givenBy(letter, k, taken));
                }
            }
            most[letter * SETS + taken] = best;
        }

        private void choose() {
            int taken = 0;
            for (int letter = 0; letter < town.letters; letter++) {
                chosen[letter] = choice(letter, taken);
                if (chosen[letter] != NONE) {
                    taken |= 1 << chosen[letter];
                }
            }
        }

        private int choice(int letter, int taken) {
            for (int k = 0; k < WALKERS_MOST; k++) {
                if (isAble(letter, k, taken) && givenBy(letter, k, taken) == most[letter * SETS + taken]) {
                    return k;
                }
            }
            return NONE;
        }
    }

    /** A SEASON, walked on a post of its own, so that nothing stays changed. */
    private static final class Season {
        private static final int WALKS_A_DAY = 8;

        private final City town;
        private final Post post;
        private int seedNow;
        private int falls;
        private int walksDone;
        private int nights;

        Season(City town, Post post) {
            this.town = town;
            this.post = post;
        }

        int lettersThere() {
            return post.lettersThere();
        }

        void run(Post now, int seed, int q, int walks) {
            post.copyFrom(now);
            seedNow = seed;
            falls = 0;
            walksDone = 0;
            nights = 0;
            for (int k = 1; k <= walks && town.walkers > 0; k++) {
                walk(draw(town.walkers), draw(town.towers));
                if (draw(FOG_PARTS) < q) {
                    post.turnFog();
                }
                if (k % WALKS_A_DAY == 0) {
                    post.nightfall();
                    nights++;
                }
            }
        }

        private void walk(int walker, int tower) {
            if (post.walkTo(walker, tower)) {
                walksDone++;
                falls += post.hasFallen(walker) ? 1 : 0;
            }
            post.handOverAll(walker);
            post.pickUpAll(walker);
        }

        private int draw(int many) {
            seedNow = seedNow * 1_103_515_245 + 12_345;
            return many > 0 ? (seedNow >>> 16 & 32_767) % many : 0;
        }
    }
}
