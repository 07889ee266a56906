/** Edges of promises 30 and 31: MIDDLE and SHARES. */
public final class EdgeShareTest {
    private static final String EIGHT = "tower 0;letter 0 0 0 9;letter 0 0 0 1;letter 0 0 0 1;letter 0 0 0 1;"
            + "letter 0 0 0 1;letter 0 0 0 1;letter 0 0 0 1;letter 0 0 0 1;";

    public static void main(String[] args) {
        middleEdges();
        middleOfAlike();
        middleOfAll();
        middleArguments();
        shareOfNothing();
        shareOfAll();
        shareCut();
        shareOfAlikeOnes();
        shareOfWhatIsLeft();
        shareInAll();
        shareWhereverTheyAre();
        shareArguments();
        shareBits();
        Due.end();
    }

    private static void rests(String call, int v, int a, int b, int many, int first, int together) {
        WirePost x = new WirePost();
        String told = call + " " + v + ", " + a + ", " + b;
        Due.same(told + ": rests", many, x.middle(v, a, b, 0));
        Due.same(told + ": the first", first, x.middle(v, a, b, 1));
        Due.same(told + ": together", together, x.middle(v, a, b, 2));
    }

    private static void middleEdges() {
        rests("30: all 0", 0, 0, 0, 4, 0, 0);
        rests("30: v alone", 99, 0, 0, 3, 1, 99);
        rests("30: a alone", 0, 99, 0, 3, 0, 0);
        rests("30: b alone", 0, 0, 99, 2, 0, 0);
        rests("30: v and a", 99, 99, 0, 2, 1, 99);
        rests("30: v and b", 99, 0, 99, 1, 11, 0);
        rests("30: a and b", 0, 99, 99, 4, 0, 0);
        rests("30: all 99", 99, 99, 99, 3, 1, 0);
    }

    /** RESTS: neither would have more by the other thing; as much is not more. */
    private static void middleOfAlike() {
        rests("30: a 1 more than b", 1, 6, 5, 2, 1, -4);
        rests("30: a as b", 1, 5, 5, 3, 1, -4);
        rests("30: a 1 less than b", 1, 5, 6, 1, 11, -10);
        rests("30: nothing to have, a 1 less", 0, 5, 6, 2, 0, 0);
        rests("30: nothing to have, a 1 more", 0, 6, 5, 3, 0, 0);
    }

    /** By hand: both turn, if v is 0; one of two goes on, if b is no more than a; both, if a is no more than b. */
    private static void middleOfAll() {
        for (int v = 0; v <= 99; v += 33) {
            for (int a = 0; a <= 99; a += 11) {
                WirePost x = new WirePost();
                for (int b = 0; b <= 99; b += 11) {
                    int many = (v == 0 ? 1 : 0) + (b <= a ? 2 : 0) + (a <= b ? 1 : 0);
                    int first = v == 0 ? 0 : b <= a ? 1 : 11;
                    int together = v == 0 ? 0 : b <= a ? v - b : -2 * a;
                    Due.same("30: rests", many, x.middle(v, a, b, 0));
                    Due.same("30: the first", first, x.middle(v, a, b, 1));
                    Due.same("30: together", together, x.middle(v, a, b, 2));
                }
            }
        }
    }

    private static void middleArguments() {
        for (int no : Edge.outside(0, 99)) {
            Edge.illegal("30: v " + no, x -> x.middle(no, 0, 0, 0));
            Edge.illegal("30: a " + no, x -> x.middle(0, no, 0, 0));
            Edge.illegal("30: b " + no, x -> x.middle(0, 0, no, 0));
        }
        for (int no : Edge.outside(0, 2)) {
            Edge.illegal("30: what " + no, x -> x.middle(0, 0, 0, no));
        }
        Edge.asks("30: asked", Edge::busy, x -> x.middle(9, 3, 2, 2), 7);
    }

    private static void shares(String call, String city, int letters, int n, int... want) {
        WirePost x = Due.of(city);
        for (int k = 0; k < want.length; k++) {
            Due.same(call + ": letter " + k + " of " + n, want[k], x.share(k, letters, n));
        }
    }

    private static void shareOfNothing() {
        shares("31: n 0", EIGHT, 255, 0, 0, 0, 0, 0, 0, 0, 0, 0);
        shares("31: among none", EIGHT, 0, 999, 0, 0, 0, 0, 0, 0, 0, 0);
        shares("31: 0, if it is none of them", EIGHT, 254, 7, 0, 1, 1, 1, 1, 1, 1, 1);
        shares("31: the last none of them", EIGHT, 127, 15, 9, 1, 1, 1, 1, 1, 1, 0);
    }

    private static void shareOfAll() {
        shares("31: one alone has all", EIGHT, 1, 999, 999, 0, 0, 0, 0, 0, 0, 0);
        shares("31: the last alone", EIGHT, 128, 999, 0, 0, 0, 0, 0, 0, 0, 999);
        shares("31: n 1", EIGHT, 255, 1, 1, 0, 0, 0, 0, 0, 0, 0);
        shares("31: nothing is left", EIGHT, 255, 16, 9, 1, 1, 1, 1, 1, 1, 1);
        shares("31: 999 among eight", EIGHT, 255, 999, 562, 63, 63, 63, 62, 62, 62, 62);
        shares("31: of the greatest weights", "tower 0;" + "letter 0 0 0 9;".repeat(8), 255, 999, 125, 125, 125, 125,
                125, 125, 125, 124);
    }

    /** Each has n times its WEIGHT by all their WEIGHTS together, cut. */
    private static void shareCut() {
        String city = "tower 0;letter 0 0 0 1;letter 0 0 0 2;letter 0 0 0 4;";
        shares("31: 7 by 1, 2, 4", city, 7, 7, 1, 2, 4);
        shares("31: 6: 0 and 6, 1 and 5, 3 and 3 left", city, 7, 6, 1, 2, 3);
        shares("31: 8: 1 and 1, 2 and 2, 4 and 4 left", city, 7, 8, 1, 2, 5);
        shares("31: 4 among 0 and 2", city, 5, 4, 1, 0, 3);
        shares("31: 1 among 1 and 2", city, 6, 1, 0, 0, 1);
    }

    /** Those first of whose n times WEIGHT most is left by all, of alike ones the first. */
    private static void shareOfAlikeOnes() {
        String three = "tower 0;letter 0 0 0 5;letter 0 0 0 5;letter 0 0 0 5;";
        shares("31: 1 of three", three, 7, 1, 1, 0, 0);
        shares("31: 2 of three", three, 7, 2, 1, 1, 0);
        shares("31: 3 of three", three, 7, 3, 1, 1, 1);
        shares("31: 4 of three", three, 7, 4, 2, 1, 1);
        shares("31: 1 of the last two", three, 6, 1, 0, 1, 0);
        shares("31: 1 of the outer two", three, 5, 1, 1, 0, 0);
    }

    private static void shareOfWhatIsLeft() {
        String city = "tower 0;letter 0 0 0 1;letter 0 0 0 3;letter 0 0 0 1;letter 0 0 0 3;";
        shares("31: 1, of 3 by 8 most is left", city, 15, 1, 0, 1, 0, 0);
        shares("31: 2", city, 15, 2, 0, 1, 0, 1);
        shares("31: 3: 3, 1 and 1, 3, 1 and 1 left", city, 15, 3, 1, 1, 0, 1);
    }

    private static void shareInAll() {
        WirePost x = Due.of("tower 0;letter 0 0 0 7;letter 0 0 0 2;letter 0 0 0 9;letter 0 0 0 4;");
        for (int n : new int[] {0, 1, 2, 21, 22, 23, 500, 998, 999}) {
            for (int letters = 1; letters < 16; letters += 7) {
                int sum = 0;
                for (int k = 0; k < 4; k++) {
                    sum += x.share(k, letters, n);
                }
                Due.same("31: all of " + n + " among " + letters, n, sum);
            }
        }
    }

    /** Among told LETTERS, be they carried or there. */
    private static void shareWhereverTheyAre() {
        Edge.asks("31: a carried one", Edge::busy, x -> x.share(0, 7, 6), 3);
        Edge.asks("31: one that is there", Edge::busy, x -> x.share(1, 7, 6), 2);
        Edge.asks("31: one that lies", Edge::busy, x -> x.share(2, 7, 6), 1);
    }

    private static void shareArguments() {
        for (int no : Edge.outside(0, 2)) {
            Edge.noSuch("31: letter " + no, x -> x.share(no, 7, 10));
            Edge.noSuch("31: letter " + no + " ahead of n", x -> x.share(no, 7, 1000));
            Edge.noSuch("31: letter " + no + " ahead of letters", x -> x.share(no, 8, 10));
        }
        for (int no : Edge.outside(0, 999)) {
            Edge.illegal("31: n " + no, x -> x.share(0, 7, no));
            Edge.illegal("31: n " + no + ", none of them", x -> x.share(0, 6, no));
        }
    }

    /** Promise 31: bits of no LETTERS. */
    private static void shareBits() {
        for (int bits : new int[] {8, 9, 15, 16, 1 << 30, -1, -8, Edge.MIN, Edge.MAX}) {
            Edge.illegal("31: bits " + bits, x -> x.share(0, bits, 10));
        }
        WirePost x = Due.of(EIGHT);
        Due.illegal("31: bits of a ninth", () -> x.share(0, 256, 10));
        Due.illegal("31: and of all", () -> x.share(0, 511, 10));
        Due.same("31: bits of all eight", 10, x.share(0, 255, 17));
    }
}
