import java.util.function.ToLongFunction;

/** Edges of promises 1, 2 and 7, and of how many bytes promises 3 to 6 take off the tape. */
public final class EdgeTapeTest {
    private static final int BLANKS = 0x20202020;

    public static void main(String[] args) {
        newObject();
        newObjectHasNoElements();
        newObjectReadsNothing();
        fullTape();
        feedBeyondFull();
        bytesOfNumbers();
        firstBytesAlone();
        bytesTooMany();
        tapeStaysWhenRefused();
        longestTexts();
        longerTextsThanEach();
        tapeIsEmptyThen();
        faultPlaces();
        faultOfTheLatestText();
        Due.end();
    }

    private static void blanks(WirePost x, int feeds) {
        for (int k = 0; k < feeds; k++) {
            x.feed(BLANKS, BLANKS, BLANKS, BLANKS, BLANKS);
        }
    }

    /** Promise 1: a CITY without CLAUSES. */
    private static void newObject() {
        Edge.sameText("1: nothing is told", "0 0 0 0 0 0 0 0 0 0 0 ; towers; wires; walkers; letters; law 9 23 1;"
                + " kept 0 0", Edge.seen(new WirePost()));
        WirePost x = new WirePost();
        Due.same("1: no bytes", 0, x.count(1));
        Due.same("1: no fault", -1, x.fault());
        Due.same("1: no call was refused", 0, x.status(0) + x.status(1));
        Due.same("1: nothing to undo", -1, x.undo());
        Due.same("1: no image", -1, x.restore());
        Due.same("1: no parts", 0, x.parts(0));
        Due.same("1: no greatest part", 0, x.parts(1));
        Due.same("1: no bridges", 0, x.bridges());
        Due.same("1: no slack of no frame", 0, x.frame(0));
        Due.same("1: no wires of no frame", 0, x.frame(1));
        Due.same("1: no letters to match", 0, x.match());
        Due.same("1: none was walked", -1, x.loudest(0));
        Due.same("1: none how often", -1, x.loudest(1));
        for (int what = 0; what <= 3; what++) {
            Due.same("1: a season without walkers " + what, 0, x.season(Edge.MAX, 16, 96, what));
        }
        Due.same("1: fewest", 0, x.span(1, 20, 16, 96, 0));
        Due.same("1: most", 0, x.span(1, 20, 16, 96, 1));
        Due.same("1: nobody falls", 20, x.span(1, 20, 16, 96, 2));
    }

    private static void newObjectHasNoElements() {
        WirePost x = new WirePost();
        Due.noSuch("1: tower", () -> x.tower(0, 0));
        Due.noSuch("1: wire", () -> x.wire(0, 0));
        Due.noSuch("1: walker", () -> x.walker(0, 0));
        Due.noSuch("1: letter", () -> x.letter(0, 0));
        Due.noSuch("1: between", () -> x.between(0, 0));
        Due.noSuch("1: lean", () -> x.lean(0, 0, 0));
        Due.noSuch("1: over", () -> x.over(0, 0, 0) ? 1 : 0);
        Due.noSuch("1: reach", () -> x.reach(0));
        Due.noSuch("1: way", () -> x.way(0, 0, 0));
        Due.noSuch("1: send", () -> x.send(0, 0));
        Due.noSuch("1: meet", () -> x.meet(0, 0, 0));
        Due.noSuch("1: fits", () -> x.fits(0, 0));
        Due.noSuch("1: look", () -> x.look(0, 0));
        Due.noSuch("1: matched", () -> x.matched(0));
        Due.noSuch("1: likely", () -> x.likely(0, 0, 0, 0));
        Due.noSuch("1: share", () -> x.share(0, 0, 0));
        Due.same("1: all were refused", 16, x.status(0));
    }

    private static void newObjectReadsNothing() {
        WirePost x = new WirePost();
        Due.same("3: an empty city", 0, x.city(0));
        Due.same("5: an empty work", 0, x.work(0));
        Due.same("6: an empty book", 0, x.book(0));
        Due.same("7: none of them has a fault", -1, x.fault());
        Due.same("4: an empty law can't stand", -9, x.law(0));
        Due.same("7: at its length", 0, x.fault());
        Due.same("5: the empty work is a work", 1, x.count(2));
        Due.same("8: it is undone", 0, x.undo());
    }

    /** Promise 2: how many there are, up to 600. */
    private static void fullTape() {
        WirePost x = new WirePost();
        for (int k = 1; k <= 30; k++) {
            Due.same("2: feed " + k, 20 * k, x.feed(BLANKS, BLANKS, BLANKS, BLANKS, BLANKS));
            Due.same("38: bytes behind feed " + k, 20 * k, x.count(1));
        }
        Due.same("2: the 601st", -1, x.feed(BLANKS, BLANKS, BLANKS, BLANKS, BLANKS));
        Due.same("38: 600 there are", 600, x.count(1));
        Due.same("2: NONE is no refused call", 0, x.status(0) + x.status(1));
        Due.same("3: 600 blanks", 0, x.city(600));
        Due.same("2: the first again", 20, x.feed(1, 2, 3, 4, 5));
    }

    /** Promise 2: NONE, doing nothing. */
    private static void feedBeyondFull() {
        WirePost x = new WirePost();
        x.feed(0x746f7765, 0x7220373b, BLANKS, BLANKS, BLANKS);
        blanks(x, 29);
        for (int k = 0; k < 3; k++) {
            Due.same("2: beyond 600", -1, x.feed(-1, -1, -1, -1, -1));
        }
        Due.same("2: it did nothing", 600, x.count(1));
        Due.same("2: the city as it was fed", 0, x.city(600));
        Due.same("2: its tower", 1, x.told(0));
        Due.same("2: and height", 7, x.tower(0, 0));
    }

    /** Promise 2: of each number the highest byte first. */
    private static void bytesOfNumbers() {
        WirePost x = new WirePost();
        x.feed(0x746f7765, 0x72313b74, 0x6f776572, 0x32333b74, 0x6f776572);
        x.feed(0x34303b20, 0, 0, 0, 0);
        Due.same("2: the bytes in their order", 0, x.city(23));
        Due.same("2: 1", 1, x.tower(0, 0));
        Due.same("2: 23", 23, x.tower(1, 0));
        Due.same("2: 40", 40, x.tower(2, 0));
        for (int k = 0; k < 20; k++) {
            WirePost y = new WirePost();
            int[] five = {BLANKS, BLANKS, BLANKS, BLANKS, BLANKS};
            five[k / 4] |= 0xff << 24 - k % 4 * 8;
            y.feed(five[0], five[1], five[2], five[3], five[4]);
            Due.same("2: a byte of 255 can't stand", -9, y.city(20));
            Due.same("2: and is byte " + k, k, y.fault());
        }
        WirePost z = new WirePost();
        z.feed(0, 0, 0, 0, 0);
        Due.same("2: a byte of 0 is no blank", -9, z.city(1));
        z.feed(0xa0000000, 0, 0, 0, 0);
        Due.same("2: nor is one of 160", -9, z.city(1));
    }

    /** Promises 3 to 6: the first n bytes; what stands behind them is not read. */
    private static void firstBytesAlone() {
        WirePost x = new WirePost();
        Due.put(x, "tower 1;tower 2;xxxx");
        Due.same("3: of twenty bytes sixteen", 0, x.city(16));
        Due.same("3: two towers", 2, x.told(0));
        Due.put(x, "tower 12;");
        Due.same("3: cut within its number", -9, x.city(7));
        Due.same("3: it ends too early", 7, x.fault());
        Due.put(x, "77");
        Due.same("4: one digit alone", 1, x.law(1));
        Due.same("4: so it is 7", 7, x.would(0, 0, 0, 0, 0, 0, 0, 0, 0));
        Due.put(x, "fog;fog;");
        Due.same("5: one step alone", 1, x.work(4));
        Due.same("5: there is fog", 1, x.told(5));
        Due.city(x, "tower 1;tower 1;wire 0 1 1;");
        Due.put(x, "0 5;0 5;");
        Due.same("6: one line alone", 1, x.book(4));
    }

    private static ToLongFunction<WirePost> reader(int kind, int n) {
        switch (kind) {
            case 3: return x -> x.city(n);
            case 4: return x -> x.law(n);
            case 5: return x -> x.work(n);
            default: return x -> x.book(n);
        }
    }

    /** Promises 3 to 6: n is not 0 to the TAPE's bytes. A busy post has 20. */
    private static void bytesTooMany() {
        for (int kind = 3; kind <= 6; kind++) {
            for (int n : new int[] {-1, 21, 600, 601, Edge.MIN, Edge.MAX}) {
                Edge.illegal(kind + ": n " + n + " of 20", reader(kind, n));
            }
            WirePost x = new WirePost();
            ToLongFunction<WirePost> one = reader(kind, 1);
            Due.illegal(kind + ": n 1 of none", () -> one.applyAsLong(x));
        }
    }

    /** Promises 3 to 6: the tape stays, so that the same bytes can be read behind the refused call. */
    private static void tapeStaysWhenRefused() {
        for (int kind = 3; kind <= 6; kind++) {
            WirePost x = Edge.busy();
            ToLongFunction<WirePost> wrong = reader(kind, 21);
            Due.illegal(kind + ": 21 of 20", () -> wrong.applyAsLong(x));
            Due.same(kind + ": the tape stays", 20, x.count(1));
            Due.same(kind + ": and is read", 0, x.city(8));
            Due.same(kind + ": as it was fed", 7, x.tower(0, 0));
        }
    }

    /** A text, filled by blanks to just so many bytes, is read as it stands. */
    private static void longestTexts() {
        WirePost x = new WirePost();
        blanks(x, 29);
        Due.put(x, "  tower 3;tower 4;  ");
        Due.same("3: 600 bytes", 0, x.city(600));
        Due.same("3: its towers", 2, x.told(0));
        Due.city(x, "tower 0;tower 0;wire 0 1 2;");
        blanks(x, 7);
        Due.put(x, "   slack*9+8xxxxxxxx");
        Due.same("4: 154 bytes are too many", Due.ILLEGAL, Due.answer(() -> x.law(154)));
        Due.same("4: 151 bytes are too many", Due.ILLEGAL, Due.answer(() -> x.law(151)));
        Due.same("4: 150 bytes", 1, x.law(150));
        Due.same("4: up to the 9", 27, x.would(3, 0, 0, 0, 0, 0, 0, 0, 0));
        blanks(x, 7);
        Due.put(x, "  night;  night;    ");
        Due.same("5: 151 bytes are too many", Due.ILLEGAL, Due.answer(() -> x.work(151)));
        Due.same("5: 150 bytes", 1, x.work(150));
        blanks(x, 4);
        Due.put(x, "          0     77 ;");
        blanks(x, 1);
        Due.same("6: 101 bytes are too many", Due.ILLEGAL, Due.answer(() -> x.book(101)));
        Due.same("6: 100 bytes", 1, x.book(100));
    }

    /** Promises 4 to 6: more than the text may have is refused, however many the tape has. */
    private static void longerTextsThanEach() {
        WirePost x = new WirePost();
        blanks(x, 30);
        int refused = 0;
        for (int n : new int[] {151, 152, 599, 600, 601, Edge.MAX, -1, Edge.MIN}) {
            Due.illegal("4: n " + n, () -> x.law(n));
            Due.illegal("5: n " + n, () -> x.work(n));
            Due.illegal("6: n " + n, () -> x.book(n));
            refused += 3;
        }
        for (int n : new int[] {101, 149, 150}) {
            Due.illegal("6: n " + n, () -> x.book(n));
            refused++;
        }
        Due.illegal("3: n 601", () -> x.city(601));
        Due.same("37: all are counted", refused + 1, x.status(1));
        Due.same("4: the tape stays", 600, x.count(1));
        Due.same("5: no work was done", 0, x.count(2));
        Due.same("5: a work of 150 blanks", 0, x.work(150));
    }

    /** Promises 3 to 6: the TAPE is empty then, with a fault, too, and whatever was left behind n. */
    private static void tapeIsEmptyThen() {
        String[] good = {"tower 1;", "slack", "fog;", "0 1;"};
        for (int kind = 3; kind <= 6; kind++) {
            for (String text : new String[] {good[kind - 3], "?"}) {
                WirePost x = Due.of("tower 0;tower 0;wire 0 1 1;");
                int n = Due.put(x, text + " ".repeat(30)) - 30;
                reader(kind, n).applyAsLong(x);
                Due.same(kind + ": empty behind " + text, 0, x.count(1));
                Due.illegal(kind + ": no byte is left", () -> x.city(1));
                Due.same(kind + ": and it can be fed", 20, x.feed(0, 0, 0, 0, 0));
            }
        }
    }

    /** Promise 7: places from 0 to the length, the longest text's, too. */
    private static void faultPlaces() {
        WirePost x = new WirePost();
        Due.put(x, "?");
        x.city(1);
        Due.same("7: at 0", 0, x.fault());
        blanks(x, 29);
        Due.put(x, " ".repeat(15) + "tower");
        Due.same("3: ends too early", -9, x.city(600));
        Due.same("7: at the length, 600", 600, x.fault());
        blanks(x, 29);
        Due.put(x, " ".repeat(19) + "?");
        Due.same("3: the last byte can't stand", -9, x.city(600));
        Due.same("7: at the last byte", 599, x.fault());
        blanks(x, 8);
        Due.same("4: ends too early", -9, x.law(150));
        Due.same("7: at the length, 150", 150, x.fault());
        Due.put(x, "again 3[" + " ".repeat(152));
        Due.same("5: ends too early", -9, x.work(150));
        Due.same("7: at the length, 150", 150, x.fault());
        Due.city(x, "tower 0;tower 0;wire 0 1 1;");
        Due.put(x, "0" + " ".repeat(119));
        Due.same("6: ends too early", -9, x.book(100));
        Due.same("7: at the length, 100", 100, x.fault());
    }

    /** Promise 7: of the latest text; NONE without. */
    private static void faultOfTheLatestText() {
        WirePost x = new WirePost();
        Due.same("7: ahead of any text", -1, x.fault());
        Due.city(x, "tower 0;x");
        Due.same("7: a city's", 8, x.fault());
        Due.law(x, "1+");
        Due.same("7: a law's", 2, x.fault());
        Due.work(x, "fo");
        Due.same("7: a work's", 0, x.fault());
        Due.book(x, " 0 1;");
        Due.same("7: a book's", 1, x.fault());
        x.feed(1, 2, 3, 4, 5);
        x.undo();
        x.image();
        x.restore();
        x.match();
        Due.illegal("7: a refused call", () -> x.told(11));
        Due.illegal("7: a refused text", () -> x.law(21));
        Due.same("7: no other call changes it", 1, x.fault());
        Due.same("7: nor asking for it", 1, x.fault());
        x.book(0);
        Due.same("7: a text without", -1, x.fault());
        Due.law(x, "");
        Due.same("7: with one", 0, x.fault());
        Due.law(x, "1");
        Due.same("7: a law without", -1, x.fault());
        Due.work(x, "?");
        Due.work(x, "");
        Due.same("7: a work without", -1, x.fault());
        Due.city(x, "?");
        Due.city(x, "");
        Due.same("7: a city without", -1, x.fault());
    }
}
