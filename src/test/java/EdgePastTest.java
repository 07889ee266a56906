/** Edges of promises 5, 8, 9 and 35 to 38: 200 steps, 16 works, undo, images, what the latest work refused. */
public final class EdgePastTest {
    private static final String CITY = "tower 0;tower 0;wire 0 1 5;walker 0 0 6;letter 0 1 0 1;";
    /** 187 steps are begun: 7 agains and 180 fogs, so that no fog is left. */
    private static final String MANY = "again 6[again 30[fog;];];";
    private static final String MANY_REFUSED = "again 6[again 30[go 0 0;];];";

    public static void main(String[] args) {
        twoHundredth();
        againAsTwoHundredth();
        refusedStepsAreBegun();
        emptyAgainsAreBegun();
        leftOutIsNotRefused();
        sixteenWorks();
        tooManyIsAheadOfFaults();
        undoToTheFirst();
        undoOfEach();
        worksThatAreNone();
        refusedByTheLatest();
        threeImages();
        imagesKeepWorks();
        imagesOfFullPast();
        imagesOfUnlikePasts();
        imagesKeepNothingElse();
        restoreBeyond();
        counts();
        Due.end();
    }

    /** 200 STEPS at most are begun by one WORK, what would come behind is left out. */
    private static void twoHundredth() {
        WirePost x = Due.of(CITY, "0");
        Due.same("T2: the 199th", 192, Due.work(x, MANY + "again 10[fog;];night;fog;"));
        Due.same("9: a night, then fog as the 200th", 1, x.told(5));
        x.undo();
        Due.same("T2: the 200th", 192, Due.work(x, MANY + "again 11[fog;];night;fog;"));
        Due.same("9: a night as the 200th", 1, x.told(4));
        Due.same("9: no fog as the 201st", 0, x.told(5));
        x.undo();
        Due.same("T2: the 201st", 192, Due.work(x, MANY + "again 12[fog;];night;fog;"));
        Due.same("9: no night as the 201st", 0, x.told(4));
        Due.same("9: nor fog as the 202nd", 0, x.told(5));
        Due.same("T2: each work has its own 200", 1, Due.work(x, "night;"));
    }

    /** An again, too, each time it is come to. */
    private static void againAsTwoHundredth() {
        WirePost x = Due.of(CITY, "0");
        Due.same("T2: the 199th is an again", 191, Due.work(x, MANY + "again 10[fog;];again 9[night;];"));
        Due.same("9: one night as the 200th", 1, x.told(4));
        Due.same("T2: the 200th is an again", 191, Due.work(x, MANY + "again 11[fog;];again 9[night;];"));
        Due.same("9: no night", 1, x.told(4));
        Due.same("T2: the 201st is an again", 192, Due.work(x, MANY + "again 12[fog;];again 9[night;];"));
        Due.same("9: no night", 1, x.told(4));
        Due.same("T2: 1, 30 of 1 and 5: 181 begun", 150, Due.work(x, "again 30[again 5[fog;];];"));
        Due.same("T2: 1, 28 of 1 and 6: 197; an again and 2 fogs", 170, Due.work(x, "again 30[again 6[fog;];];"));
    }

    private static void refusedStepsAreBegun() {
        WirePost x = Due.of(CITY, "0");
        Due.same("T2: a night as the 200th", 1, Due.work(x, MANY_REFUSED + "again 11[go 0 0;];night;night;"));
        Due.same("9: refused", 191, x.told(9));
        Due.same("T2: none as the 201st", 0, Due.work(x, MANY_REFUSED + "again 12[go 0 0;];night;"));
        Due.same("9: refused", 192, x.told(9));
        Due.same("9: one night", 1, x.told(4));
    }

    private static void emptyAgainsAreBegun() {
        WirePost x = Due.of(CITY, "0");
        Due.same("T2: agains of none, 1 and 30 and 30 of them, 61; 122; 183; 199", 1,
                Due.work(x, "again 30[again 0[];again 5[];];".repeat(3) + "again 15[again 0[];];night;fog;"));
        Due.same("9: a night as the 200th", 1, x.told(4));
        Due.same("9: no fog as the 201st", 0, x.told(5));
        Due.same("T2: one more", 0,
                Due.work(x, "again 30[again 0[];again 5[];];".repeat(3) + "again 16[again 0[];];night;fog;"));
        Due.same("T2: a loop of many empty loops ends", 0,
                Due.work(x, "again 30[again 30[again 30[again 30[again 30[again 30[];];];];];];night;"));
        Due.same("9: its night is left out", 1, x.told(4));
        Due.same("T2: what stands in an again of 0 is not begun", 30,
                Due.work(x, "again 30[again 0[fog;fog;fog;fog;fog;fog;fog;];night;];"));
    }

    private static void leftOutIsNotRefused() {
        WirePost x = Due.of(CITY, "0");
        Due.same("T2: done", 191, Due.work(x, MANY + "again 11[fog;];go 0 0;go 0 0;go 0 0;"));
        Due.same("9: refused as the 200th alone", 1, x.told(9));
    }

    /** Promise 5: -20: 16 WORKS are there that were not undone. */
    private static void sixteenWorks() {
        WirePost x = Due.of(CITY, "0");
        for (int k = 1; k <= 16; k++) {
            Due.same("5: work " + k, 1, Due.work(x, "night;"));
            Due.same("38: works " + k, k, x.count(2));
        }
        Due.same("5: a 17th", -20, Due.work(x, "night;"));
        Due.same("9: it is not done", 16, x.told(4));
        Due.same("38: works", 16, x.count(2));
        Due.same("5: the tape is empty then", 0, x.count(1));
        Due.same("5: an empty one, too", -20, x.work(0));
        Due.same("8: one is undone", 15, x.undo());
        Due.same("5: a 16th again", 1, Due.work(x, "fog;"));
        Due.same("5: a 17th again", -20, Due.work(x, "fog;"));
        Due.city(x, CITY);
        Due.same("3: a new city has none", 0, x.count(2));
        Due.same("5: so that one can be done", 1, Due.work(x, "fog;"));
    }

    private static WirePost full() {
        WirePost x = Due.of(CITY, "0");
        for (int k = 0; k < 15; k++) {
            Due.work(x, "night;");
        }
        Due.work(x, "go 0 0;night;go 0 0;");
        return x;
    }

    /** Promise 5: -20 ahead of that (nothing is read, there is no FAULT, the TAPE is empty then). */
    private static void tooManyIsAheadOfFaults() {
        for (String wrong : new String[] {"?", "go 9 9;", "again 1[".repeat(7), "fog", "fog;"}) {
            WirePost x = full();
            Due.city(x, "tower 0;?");
            Due.same("7: a fault ahead of it", 8, x.fault());
            Due.same("5: too many with " + wrong, -20, Due.work(x, wrong));
            Due.same("7: there is no fault", -1, x.fault());
            Due.same("5: the tape is empty", 0, x.count(1));
            Due.same("9: refused by the latest that was done", 2, x.told(9));
            Due.same("37: no refused call", 0, x.status(0) + x.status(1));
            Edge.sameText("5: nothing is done", Edge.seen(full()), Edge.seen(x));
        }
        WirePost x = full();
        x.feed(0, 0, 0, 0, 0);
        Due.illegal("5: n is looked at first", () -> x.work(21));
        Due.illegal("5: n below 0, too", () -> x.work(-1));
        Due.same("5: the tape stays", 20, x.count(1));
    }

    /** Promise 8: how many are left; -1: there is none. */
    private static void undoToTheFirst() {
        WirePost x = full();
        for (int left = 15; left >= 0; left--) {
            Due.same("8: undone to " + left, left, x.undo());
            Due.same("9: the day " + left, left, x.told(4));
            Due.same("38: works " + left, left, x.count(2));
        }
        Due.same("8: there is none", -1, x.undo());
        Due.same("8: still none", -1, x.undo());
        Edge.sameText("8: as it was first", Edge.seen(Due.of(CITY, "0")), Edge.seen(x));
    }

    /** Each of the steps is undone; a work of refused steps, too, is one. */
    private static void undoOfEach() {
        String[] works = {"take 0 2;", "give 0 0;", "go 0 1;", "go 1 2;", "slack 0 9;", "resin 0;", "fog;", "night;",
            "go 2 2;", "again 2[night;go 2 2;];", ""};
        for (String work : works) {
            WirePost x = Edge.midway();
            Due.work(x, work);
            Due.same("8: undone " + work, 2, x.undo());
            Due.same("9: 0 behind undo", 0, x.told(9));
            Edge.sameText("8: as it was ahead of " + work, Edge.unrefused(Edge.midway()), Edge.unrefused(x));
        }
    }

    private static void worksThatAreNone() {
        WirePost x = Due.of(CITY, "0");
        Due.work(x, "?");
        Due.same("38: one with a fault is none", 0, x.count(2));
        Due.illegal("5: refused", () -> x.work(1));
        Due.same("38: nor is a refused call", 0, x.count(2));
        Due.same("8: none to undo", -1, x.undo());
        Due.work(x, "go 0 0;");
        Due.same("38: one of refused steps is", 1, x.count(2));
    }

    /** Promise 9: STEPS REFUSED by the latest WORK (0 ahead of any, behind undo(), restore()). */
    private static void refusedByTheLatest() {
        WirePost x = Due.of(CITY, "0");
        Due.same("9: 0 ahead of any", 0, x.told(9));
        Due.work(x, "go 0 0;go 0 0;go 0 0;");
        Due.same("9: three", 3, x.told(9));
        Due.law(x, "1");
        Due.book(x, "0 1;");
        x.image();
        Due.work(x, "go");
        Due.same("9: no other text changes it, nor an image", 3, x.told(9));
        Due.work(x, "go 0 0;fog;");
        Due.same("9: of the latest alone", 1, x.told(9));
        x.undo();
        Due.same("9: 0 behind undo, not as by the one before", 0, x.told(9));
        Due.work(x, "go 0 0;");
        x.restore();
        Due.same("9: 0 behind restore", 0, x.told(9));
        Due.work(x, "go 0 0;");
        Due.city(x, CITY);
        Due.same("9: 0 in a new city", 0, x.told(9));
    }

    /** Promise 35: how many there are; -1: there are 3. Promise 36: how many are left; -1: there is none. */
    private static void threeImages() {
        WirePost x = Due.of(CITY, "0");
        for (int k = 1; k <= 3; k++) {
            Due.same("35: image " + k, k, x.image());
            Due.same("38: images " + k, k, x.count(0));
            Due.work(x, "night;");
        }
        Due.same("35: there are 3", -1, x.image());
        Due.same("38: 3 still", 3, x.count(0));
        Due.work(x, "night;");
        for (int left = 2; left >= 0; left--) {
            Due.same("36: the latest, left " + left, left, x.restore());
            Due.same("9: its day", left, x.told(4));
            Due.same("38: images", left, x.count(0));
        }
        Due.same("36: there is none", -1, x.restore());
        Due.same("38: none still", 0, x.count(0));
        Due.same("35: a first again", 1, x.image());
        Due.same("36: of a new one", 0, x.restore());
    }

    /** Promise 35: of all that WORK changes, and of the WORKS that can be undone. */
    private static void imagesKeepWorks() {
        WirePost x = Edge.midway();
        String before = Edge.unrefused(x);
        Due.same("35: a second", 2, x.image());
        Due.work(x, "again 3[night;go 2 2;resin 0;fog;];give 0 0;slack 0 9;take 0 2;");
        Due.work(x, "go 1 2;");
        Due.same("36: the latest", 1, x.restore());
        Edge.sameText("36: all is as in it", before, Edge.unrefused(x));
        Due.same("38: two works", 2, x.count(2));
        Due.same("8: undone as then", 1, x.undo());
        Due.same("9: day 1, before the fall", 0, x.told(7));
        Due.same("8: undone to the first", 0, x.undo());
        Due.same("9: day 0", 0, x.told(4));
        Due.same("36: the first image", 0, x.restore());
        Due.same("38: one work", 1, x.count(2));
        Due.same("9: day 1", 1, x.told(4));
        Due.same("8: which can be undone", 0, x.undo());
        Due.same("9: day 0", 0, x.told(4));
        Due.same("8: no more", -1, x.undo());
    }

    /** Works that were undone, and others done in their places, leave an image's own as they were. */
    private static void imagesOfUnlikePasts() {
        WirePost x = Due.of(CITY, "0");
        for (int image = 1; image <= 3; image++) {
            Due.work(x, "slack 0 " + image + ";");
            Due.work(x, "again " + image + "[resin 0;];");
            Due.same("35: image " + image, image, x.image());
            x.undo();
            x.undo();
        }
        Due.work(x, "slack 0 9;");
        Due.work(x, "again 9[resin 0;];");
        for (int image = 3; image >= 1; image--) {
            Due.same("36: image " + image, image - 1, x.restore());
            Due.same("11: its slack", image, x.wire(0, 2));
            Due.same("12: its resin", image, x.walker(0, 4));
            Due.same("8: its latest work", 1, x.undo());
            Due.same("11: its slack still", image, x.wire(0, 2));
            Due.same("12: no resin", 0, x.walker(0, 4));
            Due.same("8: its first", 0, x.undo());
            Due.same("11: slack as told", 5, x.wire(0, 2));
        }
    }

    private static void imagesOfFullPast() {
        WirePost x = full();
        Due.same("35: with 16 works", 1, x.image());
        for (int left = 15; left >= 0; left--) {
            x.undo();
        }
        Due.same("35: with none", 2, x.image());
        Due.work(x, "fog;slack 0 1;");
        Due.same("36: none", 1, x.restore());
        Due.same("8: none", -1, x.undo());
        Due.same("36: 16 works", 0, x.restore());
        Due.same("38: 16 works", 16, x.count(2));
        Due.same("5: a 17th", -20, Due.work(x, "fog;"));
        for (int left = 15; left >= 0; left--) {
            Due.same("8: undone as then", left, x.undo());
            Due.same("9: day by day", left, x.told(4));
        }
        Due.same("9: without fog", 0, x.told(5));
        Due.same("11: slack as told", 5, x.wire(0, 2));
    }

    /** The law, the book, the tape, the fault and the refused calls are no work's. */
    private static void imagesKeepNothingElse() {
        WirePost x = Due.of(CITY, "0");
        x.image();
        Due.law(x, "7");
        Due.book(x, "0 7;");
        Due.noSuch("37: refused", () -> x.reach(1));
        Due.illegal("37: refused", () -> x.told(11));
        Due.work(x, " ?");
        x.feed(0, 0, 0, 0, 0);
        Due.same("36: restore", 0, x.restore());
        Due.same("4: the law stays", 7, x.lean(0, 0, 0));
        Due.same("6: the book stays", 1, x.told(8));
        Due.same("2: the tape stays", 20, x.count(1));
        Due.same("7: the fault stays", 1, x.fault());
        Due.same("37: no image keeps it", 1, x.status(0));
        Due.same("37: nor the other", 1, x.status(1));
    }

    /** An image that is refused, or a restore of none, changes nothing. */
    private static void restoreBeyond() {
        Edge.asks("36: restore of none", () -> {
            WirePost x = Due.of(CITY, "0");
            Due.work(x, "take 0 0;go 0 1;fog;");
            return x;
        }, x -> x.restore(), -1);
        Edge.asks("8: undo of none", () -> Due.of(CITY, "0"), x -> x.undo(), -1);
        Edge.asks("35: a fourth", () -> {
            WirePost x = Edge.midway();
            x.image();
            x.image();
            return x;
        }, x -> x.image(), -1);
    }

    /** Promises 37 and 38: NONE for others. */
    private static void counts() {
        for (int no : new int[] {-1, 2, 3, 4, Edge.MIN, Edge.MAX}) {
            Edge.asks("37: status " + no, Edge::busy, x -> x.status(no), -1);
            Edge.asks("38: count " + no, Edge::busy, x -> x.count(no), no == 2 ? 2 : -1);
        }
        Edge.asks("38: images", Edge::busy, x -> x.count(0), 1);
        Edge.asks("38: bytes", Edge::busy, x -> x.count(1), 20);
        WirePost x = new WirePost();
        for (int k = 1; k <= 5; k++) {
            Due.noSuch("37: no tower", () -> x.tower(0, 9));
            Due.same("37: by NoSuchElementException", k, x.status(0));
            Due.illegal("37: no such what", () -> x.told(-1));
            Due.same("37: by IllegalArgumentException", k, x.status(1));
        }
        Due.same("37: asking counts nothing", 10, x.status(0) + x.status(1));
    }
}
