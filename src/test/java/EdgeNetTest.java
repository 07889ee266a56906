/** Edges of promises 22 to 24, 27 and 28: PARTS, BRIDGES, FRAME and MATCH. */
public final class EdgeNetTest {
    private static final String FOUR = "tower 0;tower 0;tower 0;tower 0;";
    private static final String RING = FOUR + "wire 0 1 1;wire 1 2 1;wire 2 3 1;wire 3 0 1;";

    public static void main(String[] args) {
        partsOfFew();
        partsOfMany();
        partsArguments();
        bridges();
        bridgesByWiresAlone();
        frameOfFew();
        frameLeastSlack();
        frameFewestWires();
        frameLeastBits();
        frameArguments();
        matchOfNone();
        matchOfMost();
        matchOfAlikeOnes();
        matchOfWhom();
        matchArguments();
        Due.end();
    }

    private static void partsOfFew() {
        WirePost none = new WirePost();
        Due.same("22: no towers", 0, none.parts(0));
        Due.same("22: of no towers", 0, none.parts(1));
        WirePost one = Due.of("tower 0;");
        Due.same("22: one tower", 1, one.parts(0));
        Due.same("22: of one", 1, one.parts(1));
        WirePost two = Due.of("tower 0;tower 0;");
        Due.same("22: two without a wire", 2, two.parts(0));
        Due.same("22: the greatest of one", 1, two.parts(1));
        WirePost joined = Due.of("tower 0;tower 0;wire 1 0 9;");
        Due.same("22: two by a wire", 1, joined.parts(0));
        Due.same("22: of two", 2, joined.parts(1));
    }

    private static void partsOfMany() {
        WirePost apart = Due.of(Edge.TOWERS);
        Due.same("22: eight apart", 8, apart.parts(0));
        Due.same("22: the greatest of one", 1, apart.parts(1));
        WirePost all = Due.of(Edge.TOWERS + Edge.WIRES);
        Due.same("22: all together", 1, all.parts(0));
        Due.same("22: of eight", 8, all.parts(1));
        WirePost line = Due.of(Edge.TOWERS + "wire 6 7 0;wire 5 6 0;wire 4 5 0;wire 3 4 0;wire 2 3 0;wire 1 2 0;"
                + "wire 0 1 0;");
        Due.same("22: a line told from behind", 1, line.parts(0));
        Due.same("22: of eight", 8, line.parts(1));
        WirePost zigzag = Due.of(Edge.TOWERS + "wire 7 0 0;wire 0 6 0;wire 6 1 0;wire 1 5 0;wire 5 2 0;wire 2 4 0;"
                + "wire 4 3 0;");
        Due.same("22: a line to and fro", 1, zigzag.parts(0));
        WirePost last = Due.of(Edge.TOWERS + "wire 0 1 0;wire 5 6 0;wire 7 6 0;");
        Due.same("22: the greatest is the last", 3, last.parts(1));
        Due.same("22: five parts", 5, last.parts(0));
    }

    private static void partsArguments() {
        for (int no : Edge.outside(0, 1)) {
            Edge.illegal("22: what " + no, x -> x.parts(no));
            Edge.illegal("24: what " + no, x -> x.frame(no));
        }
        Edge.asks("22: asked", Edge::busy, x -> x.parts(0), 1);
        Edge.asks("22: the greatest", Edge::busy, x -> x.parts(1), 4);
        Edge.asks("23: asked", Edge::busy, x -> x.bridges(), 7);
    }

    private static void bridges() {
        Due.same("23: no wires", 0, new WirePost().bridges());
        Due.same("23: a ring has none", 0, Due.of(RING).bridges());
        Due.same("23: cut once, all are", 7, Due.of(FOUR + "wire 0 1 1;wire 1 2 1;wire 2 3 1;").bridges());
        Due.same("23: a ring and one on to another", 16, Due.of(RING + "tower 0;wire 4 2 0;").bridges());
        Due.same("23: two rings and a wire", 8, Due.of("tower 0;".repeat(6) + "wire 0 1 0;wire 1 2 0;wire 2 0 0;"
                + "wire 2 3 0;wire 3 4 0;wire 4 5 0;wire 5 3 0;").bridges());
        Due.same("23: the last two of twelve", 1024 + 2048, Due.of(Edge.TOWERS + "wire 0 1 0;wire 0 2 0;wire 0 3 0;"
                + "wire 0 4 0;wire 1 2 0;wire 1 3 0;wire 1 4 0;wire 2 3 0;wire 2 4 0;wire 3 4 0;wire 6 7 0;wire 4 5 0;")
                .bridges());
        Due.same("23: a star, all", 127, Due.of(Edge.TOWERS + Edge.WIRES.substring(0, 77)).bridges());
        Due.same("23: the full one, that to 7", 64, Due.of(Edge.TOWERS + Edge.WIRES).bridges());
    }

    /** Whoever could walk them, however slack they are. */
    private static void bridgesByWiresAlone() {
        WirePost x = Due.of("tower 0;tower 40;wire 0 1 9;walker 0 0 6;", "99");
        Due.same("23: a wire that nobody can walk", 1, x.bridges());
        Due.same("22: joins its towers", 1, x.parts(0));
        Due.same("24: and is of the frame", 1, x.frame(1));
    }

    private static void frameOfFew() {
        WirePost none = new WirePost();
        Due.same("24: no slack of none", 0, none.frame(0));
        Due.same("24: no wires of none", 0, none.frame(1));
        WirePost apart = Due.of(FOUR);
        Due.same("24: no wires, no slack", 0, apart.frame(0));
        Due.same("24: no wires", 0, apart.frame(1));
        WirePost two = Due.of(FOUR + "wire 0 1 9;wire 2 3 9;");
        Due.same("24: as they hang together: two parts", 18, two.frame(0));
        Due.same("24: both wires", 3, two.frame(1));
        WirePost full = Due.of(Edge.TOWERS + Edge.WIRES);
        Due.same("24: of slack 0", 0, full.frame(0));
        Due.same("24: seven wires", 127, full.frame(1));
    }

    /** That of the least SLACK together. */
    private static void frameLeastSlack() {
        WirePost x = Due.of(RING);
        for (int k = 0; k < 4; k++) {
            Due.work(x, "slack " + k + " 9;");
            Due.same("24: without the slackest", 15 - (1 << k), x.frame(1));
            Due.same("24: slack 3", 3, x.frame(0));
            Due.work(x, "slack " + k + " 1;");
        }
        Due.work(x, "slack 0 0;slack 1 9;slack 2 8;slack 3 7;");
        Due.same("24: 0, 8 and 7", 15, x.frame(0));
        Due.same("24: without 9", 13, x.frame(1));
        WirePost y = Due.of("tower 0;tower 0;tower 0;wire 0 1 9;wire 1 2 9;wire 0 2 9;");
        Due.same("24: all of slack 9", 18, y.frame(0));
        Due.same("24: the least bits", 3, y.frame(1));
    }

    /** Of alike ones of the fewest WIRES: one of slack 0 too many is left out. */
    private static void frameFewestWires() {
        WirePost x = Due.of(RING);
        Due.work(x, "slack 0 0;slack 1 0;slack 2 0;slack 3 0;");
        Due.same("24: slack 0 by four or by three", 0, x.frame(0));
        Due.same("24: three", 7, x.frame(1));
        Due.work(x, "slack 0 1;");
        Due.same("24: slack 0", 0, x.frame(0));
        Due.same("24: the three of slack 0", 14, x.frame(1));
    }

    /** Of these the least bits. */
    private static void frameLeastBits() {
        WirePost x = Due.of(RING + "wire 0 2 1;");
        Due.same("24: of alike ones the least bits", 7, x.frame(1));
        Due.work(x, "slack 0 2;slack 1 2;");
        Due.same("24: 2, 3 or 2, 4 or 3, 4 of slack 1, then 0 or 1", 4 + 8 + 1, x.frame(1));
        Due.same("24: slack 4", 4, x.frame(0));
        Due.work(x, "slack 2 2;slack 3 2;slack 4 2;");
        Due.same("24: all of slack 2", 7, x.frame(1));
        WirePost y = Due.of("tower 0;tower 0;tower 0;wire 0 1 5;wire 1 2 3;wire 0 2 5;");
        Due.same("24: 1, then 0 rather than 2", 3, y.frame(1));
        Due.same("24: slack 8", 8, y.frame(0));
    }

    private static void frameArguments() {
        Edge.asks("24: asked", Edge::busy, x -> x.frame(0), 4);
        Edge.asks("24: its wires", Edge::busy, x -> x.frame(1), 7);
    }

    private static void matchOfNone() {
        Due.same("27: no letters", 0, Due.of("tower 0;walker 0 0 6;").match());
        WirePost x = Due.of("tower 0;letter 0 0 0 1;");
        Due.same("27: no walkers", 0, x.match());
        Due.same("28: given to none", -1, x.matched(0));
        WirePost y = Due.of("tower 0;tower 0;walker 0 0 6;letter 1 0 0 1;letter 0 1 0 1;letter 0 0 0 1;");
        Due.same("27: one that he can bring", 1, y.match());
        Due.same("28: can't come there", -1, y.matched(0));
        Due.same("28: can't come on", -1, y.matched(1));
        Due.same("28: need not", 0, y.matched(2));
        Due.work(y, "take 0 2;");
        Due.same("27: carried letters, walkers that carry", 0, y.match());
        Due.work(y, "give 0 2;");
        Due.same("27: letters that are there", 0, y.match());
        Due.same("28: to none", -1, y.matched(2));
    }

    /** That by which most are given. */
    private static void matchOfMost() {
        WirePost x = Due.of("tower 0;" + "walker 0 0 6;".repeat(6) + "letter 0 0 0 1;".repeat(8));
        Due.same("27: six of eight", 6, x.match());
        for (int k = 0; k < 8; k++) {
            Due.same("28: letter " + k, k < 6 ? k : -1, x.matched(k));
        }
        WirePost y = Due.of("tower 0;walker 0 0 6;walker 0 0 0;walker 0 0 1;letter 0 0 0 1;letter 0 0 1 1;"
                + "letter 0 0 2 1;");
        Due.same("27: all three", 3, y.match());
        Due.same("28: 0 gives way to 2", 1, y.matched(0));
        Due.same("28: so does 1", 2, y.matched(1));
        Due.same("28: 2 has the only one", 0, y.matched(2));
        WirePost z = Due.of("tower 0;walker 0 0 1;walker 0 0 2;walker 0 0 6;letter 0 0 1 1;letter 0 0 1 1;"
                + "letter 0 0 2 1;letter 0 0 2 1;");
        Due.same("27: three of four", 3, z.match());
    }

    /** Of alike ways the first (LETTER by LETTER the least WALKER, given to none last). */
    private static void matchOfAlikeOnes() {
        WirePost x = Due.of("tower 0;walker 0 0 6;walker 0 0 6;letter 0 0 0 1;letter 0 0 0 1;letter 0 0 0 1;");
        Due.same("27: two", 2, x.match());
        Due.same("28: the least walker", 0, x.matched(0));
        Due.same("28: then the next", 1, x.matched(1));
        Due.same("28: none is last", -1, x.matched(2));
        WirePost more = Due.of("tower 0;" + "walker 0 0 6;".repeat(3) + "letter 0 0 0 1;letter 0 0 0 1;");
        Due.same("28: more walkers than letters", 0, more.matched(0));
        Due.same("28: the next of them", 1, more.matched(1));
        WirePost y = Due.of("tower 0;walker 0 0 3;walker 0 0 6;letter 0 0 5 1;letter 0 0 3 1;letter 0 0 3 1;");
        Due.same("27: two", 2, y.match());
        Due.same("28: 0 to 1, its only one, rather than to none", 1, y.matched(0));
        Due.same("28: 1 to 0", 0, y.matched(1));
        Due.same("28: 2 to none", -1, y.matched(2));
        WirePost z = Due.of("tower 0;walker 0 0 6;walker 0 0 3;letter 0 0 3 1;letter 0 0 3 1;");
        Due.same("28: the least walker though the other takes it alone", 0, z.matched(0));
        Due.same("28: the other", 1, z.matched(1));
    }

    /** To unlike WALKERS who can bring them (as by SEND). */
    private static void matchOfWhom() {
        WirePost x = Due.of("tower 0;tower 0;wire 0 1 2;walker 0 2 6;walker 0 4 6;letter 0 1 0 2;letter 1 0 0 2;",
                "slack + letters");
        Due.same("27: one who can walk with it", 1, x.match());
        Due.same("28: the first letter has him", 1, x.matched(0));
        Due.same("28: the other none", -1, x.matched(1));
        Due.law(x, "slack");
        Due.same("27: both", 2, x.match());
        Due.work(x, "slack 0 3;go 0 1;");
        Due.same("12: fallen", -1, x.walker(0, 0));
        Due.same("27: not the fallen", 1, x.match());
        Due.same("28: the other one", 1, x.matched(0));
    }

    private static void matchArguments() {
        for (int no : Edge.outside(0, 2)) {
            Edge.noSuch("28: letter " + no, x -> x.matched(no));
        }
        Edge.asks("27: asked", Edge::busy, x -> x.match(), 0);
        Edge.asks("28: asked", Edge::busy, x -> x.matched(2), -1);
    }
}
