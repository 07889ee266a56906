/** Edges of promises 18 to 21 and 29: REACH, WAY, SEND, MEET and FOG. */
public final class EdgeWayTest {
    /** Eight towers in one line. */
    private static final String LINE = Edge.TOWERS + "wire 0 1 1;wire 1 2 1;wire 2 3 1;wire 3 4 1;wire 4 5 1;"
            + "wire 5 6 1;wire 6 7 1;";
    /** From 0 by 1, 2 or 3 to 4, and on to 5; 6 stands apart. */
    private static final String FAN = "tower 0;".repeat(7) + "wire 0 3 1;wire 0 2 1;wire 0 1 1;wire 3 4 1;wire 2 4 1;"
            + "wire 1 4 1;wire 4 5 9;";

    public static void main(String[] args) {
        reach();
        longestWay();
        noWay();
        wayOfAlikeOnes();
        wayByTheFirstTower();
        wayByNerve();
        wayWithWhatHeCarries();
        wayAsNow();
        wayArguments();
        sendOfWhom();
        sendOfWhat();
        sendOfAlikeOnes();
        sendThereAndOn();
        sendArguments();
        meet();
        meetOfAlikeOnes();
        meetArguments();
        likelyEdges();
        likelyLeastTerms();
        likelyWhateverIsNow();
        likelyFirstByTowers();
        likelyUpAndDown();
        likelyArguments();
        Due.end();
    }

    /** Promise 18: his own, too; 0: FALLEN. */
    private static void reach() {
        WirePost x = Due.of(LINE + "walker 0 1 6;walker 7 0 6;walker 3 1 6;", "slack");
        Due.same("18: all eight", 255, x.reach(0));
        Due.same("18: his own alone", 128, x.reach(1));
        Due.same("18: to both sides", 255, x.reach(2));
        Due.work(x, "slack 2 2;slack 4 2;");
        Due.same("18: between two slack wires", 8 + 16, x.reach(2));
        Due.same("18: up to one", 7, x.reach(0));
        Due.work(x, "go 1 6;");
        Due.same("18: fallen", 0, x.reach(1));
        Due.work(x, "night;");
        Due.same("18: up again", 128, x.reach(1));
        Due.same("18: a tower without wires", 1, Due.of("tower 0;walker 0 0 0;").reach(0));
        Edge.asks("18: of a busy post", Edge::busy, p -> p.reach(1), 15);
        Edge.asks("18: with what he carries", Edge::busy, p -> p.reach(0), 1);
        Edge.asks("18: of the fallen", Edge::busy, p -> p.reach(2), 0);
        for (int no : Edge.outside(0, 2)) {
            Edge.noSuch("18: walker " + no, p -> p.reach(no));
        }
    }

    private static void longestWay() {
        WirePost x = Due.of(LINE + "walker 0 1 6;walker 7 1 6;", "slack");
        for (int k = 0; k < 8; k++) {
            Due.same("19: wires to " + k, k, x.way(0, k, 0));
            Due.same("19: first to " + k, k == 0 ? -1 : 1, x.way(0, k, 1));
            Due.same("19: wires back to " + k, 7 - k, x.way(1, k, 0));
            Due.same("19: first back to " + k, k == 7 ? -1 : 6, x.way(1, k, 1));
        }
    }

    /** Promise 19: NONE: he can't, or has FALLEN; the first TOWER NONE: he can't, or is there. */
    private static void noWay() {
        WirePost x = Due.of(FAN + "walker 0 1 6;walker 0 0 6;", "slack");
        Due.same("19: he is there", 0, x.way(0, 0, 0));
        Due.same("19: he is there, no first", -1, x.way(0, 0, 1));
        Due.same("19: a tower apart", -1, x.way(0, 6, 0));
        Due.same("19: a tower apart, no first", -1, x.way(0, 6, 1));
        Due.same("19: a wire too slack", -1, x.way(0, 5, 0));
        Due.same("19: a wire too slack, no first", -1, x.way(0, 5, 1));
        Due.same("19: no nerve at all", -1, x.way(1, 1, 0));
        Due.work(x, "go 1 1;");
        for (int k = 0; k < 7; k++) {
            Due.same("19: fallen, to " + k, -1, x.way(1, k, 0));
            Due.same("19: fallen, no first to " + k, -1, x.way(1, k, 1));
        }
    }

    /** Of ways as short the first TOWER of it, the least. */
    private static void wayOfAlikeOnes() {
        WirePost x = Due.of(FAN + "walker 0 1 6;walker 4 1 6;", "slack");
        Due.same("19: two wires", 2, x.way(0, 4, 0));
        Due.same("19: by 1", 1, x.way(0, 4, 1));
        Due.same("19: back by 1", 1, x.way(1, 0, 1));
        Due.work(x, "slack 2 2;");
        Due.same("19: by 2", 2, x.way(0, 4, 1));
        Due.same("19: back by 2", 2, x.way(1, 0, 1));
        Due.work(x, "slack 4 2;");
        Due.same("19: by 3", 3, x.way(0, 4, 1));
        Due.same("19: to 1 it is longer", 3, x.way(0, 1, 0));
        Due.same("19: and begins by 3", 3, x.way(0, 1, 1));
        Due.same("19: to 2 straight", 1, x.way(0, 2, 0));
    }

    /** The first TOWER is tower 0, too; and none where he is, though a wire leads away from which none leads back. */
    private static void wayByTheFirstTower() {
        WirePost x = Due.of(FAN + "walker 3 1 6;", "slack");
        Due.same("19: 3 by 0 to 1", 2, x.way(0, 1, 0));
        Due.same("19: by 0, as by 4", 0, x.way(0, 1, 1));
        Due.same("19: to 0", 0, x.way(0, 0, 1));
        WirePost down = Due.of("tower 9;tower 0;wire 0 1 0;walker 0 0 6;", "most[rise,0]");
        Due.same("19: he is there", 0, down.way(0, 0, 0));
        Due.same("19: he is there, no first", -1, down.way(0, 0, 1));
        Due.same("19: down", 1, down.way(0, 1, 1));
        WirePost full = Due.of(Edge.TOWERS + Edge.WIRES + "walker 7 0 6;".repeat(6));
        Due.same("18: in the fullest city", 255, full.reach(5));
        Due.same("19: in the fullest city", 2, full.way(5, 6, 0));
        Due.same("19: by 0", 0, full.way(5, 6, 1));
    }

    private static void wayByNerve() {
        WirePost x = Due.of("tower 0;tower 0;wire 0 1 5;walker 0 5 6;walker 0 4 6;", "slack");
        Due.same("19: a lean as great as his nerve", 1, x.way(0, 1, 0));
        Due.same("19: greater", -1, x.way(1, 1, 0));
        Due.law(x, "0-slack");
        Due.same("19: by size", 1, x.way(0, 1, 0));
        Due.same("19: by size, greater", -1, x.way(1, 1, 0));
        WirePost y = Due.of("tower 0;tower 6;wire 0 1 5;walker 0 5 6;walker 1 5 6;", "most[rise,0]");
        Due.same("19: not up", -1, y.way(0, 1, 0));
        Due.same("19: but down", 1, y.way(1, 0, 0));
    }

    private static void wayWithWhatHeCarries() {
        WirePost x = Due.of("tower 0;tower 0;wire 0 1 0;walker 0 5 6;walker 0 5 6;letter 0 1 0 6;", "load");
        Due.same("19: with nothing", 1, x.way(0, 1, 0));
        Due.work(x, "take 0 0;");
        Due.same("19: with 6", -1, x.way(0, 1, 0));
        Due.same("18: with 6", 1, x.reach(0));
        Due.same("19: another one with nothing", 1, x.way(1, 1, 0));
    }

    /** What hums, fog, resin are as now, all the way along. */
    private static void wayAsNow() {
        WirePost x = Due.of(LINE + "walker 0 3 6;walker 1 3 6;", "hum*2 + fog*2 + resin*3 + day*4");
        Due.work(x, "go 1 2;go 1 1;");
        Due.same("19: up to the wire that hums", 1, x.way(0, 1, 0));
        Due.same("19: not over it", -1, x.way(0, 2, 0));
        Due.work(x, "fog;");
        Due.same("19: fog", 1, x.way(0, 1, 0));
        Due.work(x, "resin 0;");
        Due.same("19: fog and resin", -1, x.way(0, 1, 0));
        Due.work(x, "night;");
        Due.same("19: the next day", -1, x.way(0, 1, 0));
        Due.law(x, "day*3");
        Due.same("19: by another law", 7, x.way(0, 7, 0));
    }

    private static void wayArguments() {
        for (int no : Edge.outside(0, 2)) {
            Edge.noSuch("19: walker " + no, x -> x.way(no, 0, 0));
            Edge.noSuch("19: walker " + no + " ahead of what", x -> x.way(no, 0, 2));
        }
        for (int no : Edge.outside(0, 3)) {
            Edge.noSuch("19: tower " + no, x -> x.way(0, no, 0));
            Edge.noSuch("19: tower " + no + " ahead of what", x -> x.way(0, no, -1));
        }
        for (int no : Edge.outside(0, 1)) {
            Edge.illegal("19: what " + no, x -> x.way(0, 0, no));
        }
        Edge.asks("19: asked", Edge::busy, x -> x.way(1, 2, 0), 1);
        Edge.asks("19: the first", Edge::busy, x -> x.way(1, 2, 1), 2);
    }

    /** SEND: of all WALKERS who have not FALLEN, carry nothing and take its KIND. */
    private static void sendOfWhom() {
        WirePost x = Due.of("tower 0;tower 0;wire 0 1 0;walker 0 0 6;walker 0 9 4;walker 1 9 5;walker 1 9 6;"
                + "letter 0 1 5 1;letter 0 0 4 1;", "fog");
        Due.same("20: any kind, one wire", 0, x.send(0, 0));
        Due.same("20: one wire", 1, x.send(0, 1));
        Due.work(x, "take 0 1;");
        Due.same("20: who carries is not sent", 2, x.send(0, 0));
        Due.same("20: two wires", 2, x.send(0, 1));
        Due.work(x, "give 0 1;fog;go 0 1;");
        Due.same("12: fallen", -1, x.walker(0, 0));
        Due.same("20: who has fallen is not sent", 2, x.send(0, 0));
        Due.law(x, "hum*5");
        Due.same("20: a lean of 5 by nerve 9", 2, x.send(0, 0));
        Due.law(x, "hum*10");
        Due.same("20: of 10, nobody", -1, x.send(0, 0));
        Due.same("20: nobody, no wires", -1, x.send(0, 1));
        WirePost y = Due.of("tower 0;walker 0 0 4;letter 0 0 5 1;letter 0 0 4 1;");
        Due.same("20: of no kind he takes", -1, y.send(0, 0));
        Due.same("20: of his kind", 0, y.send(1, 0));
        Due.same("20: by no wire", 0, y.send(1, 1));
    }

    /** SEND of a LETTER that lies; NONE both: nobody, or it does not lie. */
    private static void sendOfWhat() {
        WirePost x = Due.of("tower 0;tower 0;wire 0 1 0;walker 0 0 6;walker 0 0 6;letter 0 1 5 1;letter 0 0 4 1;", "0");
        Due.same("20: lies at its T: by no wire", 0, x.send(1, 1));
        Due.work(x, "take 0 0;");
        Due.same("20: carried", -1, x.send(0, 0));
        Due.same("20: carried, no wires", -1, x.send(0, 1));
        Due.work(x, "go 0 1;give 0 0;");
        Due.same("20: there", -1, x.send(0, 0));
        Due.same("20: there, no wires", -1, x.send(0, 1));
        WirePost none = Due.of("tower 0;letter 0 0 0 1;");
        Due.same("20: without walkers", -1, none.send(0, 0));
        Due.same("20: without walkers, no wires", -1, none.send(0, 1));
    }

    /** Whose WAY is shortest, of alike ones the first. */
    private static void sendOfAlikeOnes() {
        WirePost x = Due.of(LINE + "walker 7 1 6;walker 2 1 6;walker 2 1 6;walker 0 1 6;letter 1 3 0 1;", "slack");
        Due.same("20: 1 and 2 by walkers 1, 2 and 3", 1, x.send(0, 0));
        Due.same("20: 3 wires", 3, x.send(0, 1));
        Due.work(x, "go 1 3;");
        Due.same("20: now walker 2", 2, x.send(0, 0));
        Due.work(x, "go 2 3;");
        Due.same("20: now walker 3", 3, x.send(0, 0));
        Due.work(x, "go 3 1;");
        Due.same("20: who stands there", 3, x.send(0, 0));
        Due.same("20: 2 wires", 2, x.send(0, 1));
        Due.work(x, "take 3 0;give 3 0;go 3 0;slack 0 2;");
        Due.same("20: walker 1 by 2 and 2", 1, x.send(0, 0));
        Due.same("20: 4 wires", 4, x.send(0, 1));
    }

    /** WAY to it with nothing, and on from there to its T with it. */
    private static void sendThereAndOn() {
        WirePost x = Due.of(LINE + "walker 0 1 6;walker 7 9 6;letter 7 0 0 8;letter 1 0 0 1;", "load + slack - 1");
        Due.same("20: who can carry it", 1, x.send(0, 0));
        Due.same("20: 0 and 7 wires", 7, x.send(0, 1));
        Due.law(x, "load*2 + slack - 1");
        Due.same("20: nobody with it", -1, x.send(0, 0));
        Due.same("20: nobody, no wires", -1, x.send(0, 1));
        Due.law(x, "slack + load*0");
        Due.same("20: the first is longer: 7 and 7", 1, x.send(0, 0));
        Due.work(x, "slack 3 2;");
        Due.same("20: by nerve 9 over slack 2", 1, x.send(0, 0));
        Due.same("20: 1 and 1", 2, x.send(1, 1));
        Due.same("20: by walker 0", 0, x.send(1, 0));
        WirePost y = Due.of(LINE + "walker 0 1 6;letter 7 0 0 8;", "0");
        Due.same("20: 7 and 7", 14, y.send(0, 1));
        WirePost z = Due.of("tower 0;tower 0;tower 0;wire 0 1 0;wire 1 2 0;walker 0 5 6;letter 1 2 0 9;letter 0 2 0 1;",
                "letters*(load-4)");
        Due.same("20: 9 - 4 by nerve 5", 0, z.send(0, 0));
        Due.same("20: 1 - 4", 0, z.send(1, 0));
        Due.law(z, "letters*(load-3)");
        Due.same("20: 9 - 3 by nerve 5: he comes there, not on", -1, z.send(0, 0));
        Due.law(z, "(1-letters)*6");
        Due.same("20: he comes on, not there", -1, z.send(0, 0));
        Due.same("20: where he is he need not come", 0, z.send(1, 0));
    }

    private static void sendArguments() {
        for (int no : Edge.outside(0, 2)) {
            Edge.noSuch("20: letter " + no, x -> x.send(no, 0));
            Edge.noSuch("20: letter " + no + " ahead of what", x -> x.send(no, 2));
        }
        for (int no : Edge.outside(0, 1)) {
            Edge.illegal("20: what " + no, x -> x.send(0, no));
        }
        Edge.asks("20: carried", Edge::busy, x -> x.send(0, 0), -1);
        Edge.asks("20: there", Edge::busy, x -> x.send(1, 1), -1);
        Edge.asks("20: nobody", Edge::busy, x -> x.send(2, 0), -1);
    }

    /** Promise 21: NONE both: they can't. */
    private static void meet() {
        WirePost x = Due.of(LINE + "walker 0 1 6;walker 7 1 6;walker 7 0 6;walker 3 0 6;", "slack");
        Due.same("21: at the least tower", 0, x.meet(0, 1, 0));
        Due.same("21: 7 wires", 7, x.meet(0, 1, 1));
        Due.same("21: the other one can't go", 7, x.meet(0, 2, 0));
        Due.same("21: 7 wires", 7, x.meet(2, 0, 1));
        Due.same("21: neither can go", -1, x.meet(2, 3, 0));
        Due.same("21: neither, no wires", -1, x.meet(2, 3, 1));
        Due.same("21: neither need go", 7, x.meet(1, 2, 0));
        Due.same("21: no wires", 0, x.meet(1, 2, 1));
        Due.same("21: one and himself", 3, x.meet(3, 3, 0));
        Due.same("21: no wires", 0, x.meet(3, 3, 1));
        Due.work(x, "go 2 6;");
        Due.same("21: fallen", -1, x.meet(2, 1, 0));
        Due.same("21: fallen, no wires", -1, x.meet(2, 1, 1));
        Due.same("21: fallen, the other way", -1, x.meet(1, 2, 0));
        Due.same("21: fallen, himself", -1, x.meet(2, 2, 0));
        WirePost y = Due.of("tower 0;tower 0;walker 0 9 6;walker 1 9 6;");
        Due.same("21: towers apart", -1, y.meet(0, 1, 0));
    }

    private static void meetOfAlikeOnes() {
        WirePost x = Due.of(FAN + "walker 4 1 6;walker 0 1 6;walker 3 1 6;walker 2 1 6;", "slack");
        Due.same("21: at 0, 1, 2, 3 or 4 by 2", 0, x.meet(0, 1, 0));
        Due.same("21: 2 wires", 2, x.meet(1, 0, 1));
        Due.same("21: of 3 and 2: at 0 or 4", 0, x.meet(2, 3, 0));
        Due.work(x, "slack 1 2;");
        Due.same("21: now at 2, by 3 and 4: 2, 3 or 4", 2, x.meet(2, 3, 0));
        Due.same("21: 2 wires", 2, x.meet(3, 2, 1));
        WirePost y = Due.of("tower 9;tower 0;wire 0 1 0;walker 0 8 6;walker 1 8 6;", "most[rise,0]");
        Due.same("21: one can go down alone", 1, y.meet(0, 1, 0));
    }

    private static void meetArguments() {
        for (int no : Edge.outside(0, 2)) {
            Edge.noSuch("21: walker " + no, x -> x.meet(no, 0, 0));
            Edge.noSuch("21: other " + no, x -> x.meet(0, no, 0));
            Edge.noSuch("21: both " + no + " ahead of what", x -> x.meet(no, no, 2));
            Edge.noSuch("21: other " + no + " ahead of what", x -> x.meet(0, no, -1));
        }
        for (int no : Edge.outside(0, 1)) {
            Edge.illegal("21: what " + no, x -> x.meet(0, 1, no));
        }
        Edge.asks("21: asked", Edge::busy, x -> x.meet(0, 1, 0), 0);
        Edge.asks("21: how many wires", Edge::busy, x -> x.meet(0, 1, 1), 3);
        Edge.asks("21: with the fallen", Edge::busy, x -> x.meet(0, 2, 1), -1);
    }

    private static void chance(String call, WirePost x, int tower, int q, long above, long below) {
        Due.same(call + ": above, q " + q, above, x.likely(0, tower, q, 0));
        Due.same(call + ": below, q " + q, below, x.likely(0, tower, q, 1));
    }

    /** Promise 29: 0 by 1: there is no WAY. */
    private static void likelyEdges() {
        WirePost x = Due.of(LINE + "walker 0 1 6;", "slack + fog");
        chance("29: where he is", x, 0, 0, 1, 1);
        chance("29: where he is", x, 0, 16, 1, 1);
        chance("29: never in fog", x, 7, 0, 1, 1);
        chance("29: always in fog", x, 7, 16, 0, 1);
        chance("29: all but always", x, 1, 15, 1, 16);
        chance("29: all but never", x, 1, 1, 15, 16);
        Due.work(x, "slack 6 2;");
        chance("29: no way", x, 7, 0, 0, 1);
        chance("29: no way", x, 7, 16, 0, 1);
        Due.work(x, "slack 0 2;go 0 1;");
        chance("29: fallen", x, 0, 3, 0, 1);
    }

    /** In least terms. */
    private static void likelyLeastTerms() {
        WirePost x = Due.of(LINE + "walker 0 1 6;", "slack + fog");
        chance("29: 8 of 16", x, 1, 8, 1, 2);
        chance("29: 12 of 16", x, 1, 4, 3, 4);
        chance("29: 4 of 16", x, 1, 12, 1, 4);
        chance("29: 14 of 16", x, 1, 2, 7, 8);
        chance("29: 2 wires of 8", x, 2, 8, 1, 4);
        chance("29: 7 wires of 1", x, 7, 15, 1, 268435456);
        chance("29: 7 wires of 15", x, 7, 1, 170859375, 268435456);
        chance("29: 7 wires of 14", x, 7, 2, 823543, 2097152);
        chance("29: 7 wires of 8", x, 7, 8, 1, 128);
        Due.law(x, "slack");
        chance("29: whatever the fog", x, 7, 9, 1, 1);
    }

    /** Each WIRE is in fog by q of 16 (whatever is now); the WAY is as now. */
    private static void likelyWhateverIsNow() {
        WirePost x = Due.of(LINE + "walker 0 1 6;", "slack + 1 - fog");
        chance("29: no way without fog", x, 1, 16, 0, 1);
        Due.work(x, "fog;");
        chance("29: a way in fog, without it none", x, 1, 0, 0, 1);
        chance("29: 5 of 16", x, 1, 5, 5, 16);
        chance("29: 16 of 16", x, 7, 16, 1, 1);
        chance("29: 25 of 256", x, 2, 5, 25, 256);
    }

    /** The first one by TOWERS: the least at each step. */
    private static void likelyFirstByTowers() {
        WirePost x = Due.of(FAN + "walker 0 2 6;", "slack + fog");
        Due.work(x, "slack 2 2;slack 3 2;slack 4 2;slack 5 2;slack 6 1;");
        chance("29: by 1: 2 wires that fog takes", x, 4, 4, 9, 16);
        chance("29: and one that it does not", x, 5, 4, 9, 16);
        Due.work(x, "slack 2 1;");
        chance("29: by 1: one that it takes", x, 4, 4, 3, 4);
        Due.work(x, "slack 2 3;");
        chance("29: by 2: one that it takes", x, 4, 4, 3, 4);
        Due.work(x, "slack 1 2;slack 3 1;");
        chance("29: by 2, though 3 were surer", x, 4, 4, 9, 16);
        Due.work(x, "slack 1 3;");
        chance("29: by 3", x, 4, 4, 1, 1);
    }

    /** Each wire as he walks it, up or down, whichever end was told first. */
    private static void likelyUpAndDown() {
        for (String wire : new String[] {"wire 0 1 0;", "wire 1 0 0;"}) {
            WirePost up = Due.of("tower 0;tower 5;" + wire + "walker 0 5 6;", "most[rise,0]*(1+fog)");
            chance("29: up by " + wire, up, 1, 3, 13, 16);
            WirePost down = Due.of("tower 5;tower 0;" + wire + "walker 0 5 6;", "most[rise,0]*(1+fog)");
            chance("29: down by " + wire, down, 1, 3, 1, 1);
        }
    }

    private static void likelyArguments() {
        for (int no : Edge.outside(0, 2)) {
            Edge.noSuch("29: walker " + no, x -> x.likely(no, 0, 0, 0));
            Edge.noSuch("29: walker " + no + " ahead of q", x -> x.likely(no, 0, 17, 0));
        }
        for (int no : Edge.outside(0, 3)) {
            Edge.noSuch("29: tower " + no, x -> x.likely(0, no, 0, 0));
            Edge.noSuch("29: tower " + no + " ahead of part", x -> x.likely(0, no, 0, 2));
        }
        for (int no : Edge.outside(0, 16)) {
            Edge.illegal("29: q " + no, x -> x.likely(0, 0, no, 0));
        }
        for (int no : Edge.outside(0, 1)) {
            Edge.illegal("29: part " + no, x -> x.likely(0, 0, 0, no));
        }
        Edge.asks("29: asked", Edge::busy, x -> x.likely(1, 2, 3, 0), 1);
    }
}
