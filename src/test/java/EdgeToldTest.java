/** Edges of promises 9 to 14 and 32: what is told of a post, and what is refused there. */
public final class EdgeToldTest {
    public static void main(String[] args) {
        toldArguments();
        elementArguments();
        elementAheadOfWhat();
        betweenArguments();
        loudestArguments();
        toldOfAll();
        towers();
        wires();
        walkers();
        letters();
        between();
        loudest();
        loudestOfTheFullest();
        Due.end();
    }

    /** Promise 9: another what. */
    private static void toldArguments() {
        for (int no : Edge.outside(0, 10)) {
            Edge.illegal("9: what " + no, x -> x.told(no));
        }
        int[] busy = {4, 3, 3, 3, 1, 1, 2, 4, 1, 1, 2};
        for (int what = 0; what <= 10; what++) {
            int asked = what;
            Edge.asks("9: what " + what, Edge::busy, x -> x.told(asked), busy[what]);
        }
    }

    /** Promises 10 to 13: no such TOWER (of 4), WIRE (of 3), WALKER (of 3), LETTER (of 3); another what. */
    private static void elementArguments() {
        for (int no : Edge.outside(0, 3)) {
            Edge.noSuch("10: tower " + no, x -> x.tower(no, 0));
            Edge.illegal("10: what " + no, x -> x.tower(3, no));
            Edge.illegal("11: what " + no, x -> x.wire(2, no));
        }
        for (int no : Edge.outside(0, 2)) {
            Edge.noSuch("11: wire " + no, x -> x.wire(no, 0));
            Edge.noSuch("12: walker " + no, x -> x.walker(no, 0));
            Edge.noSuch("13: letter " + no, x -> x.letter(no, 0));
        }
        for (int no : Edge.outside(0, 6)) {
            Edge.illegal("12: what " + no, x -> x.walker(2, no));
            Edge.illegal("13: what " + no, x -> x.letter(2, no));
        }
    }

    /** NoSuchElementException .. (so below, ahead of others). */
    private static void elementAheadOfWhat() {
        for (int what : new int[] {-1, 7, Edge.MIN, Edge.MAX}) {
            Edge.noSuch("10: tower 4, what " + what, x -> x.tower(4, what));
            Edge.noSuch("10: tower -1, what " + what, x -> x.tower(-1, what));
            Edge.noSuch("11: wire 3, what " + what, x -> x.wire(3, what));
            Edge.noSuch("11: wire -1, what " + what, x -> x.wire(-1, what));
            Edge.noSuch("12: walker 3, what " + what, x -> x.walker(3, what));
            Edge.noSuch("12: walker -1, what " + what, x -> x.walker(-1, what));
            Edge.noSuch("13: letter 3, what " + what, x -> x.letter(3, what));
            Edge.noSuch("13: letter -1, what " + what, x -> x.letter(-1, what));
        }
    }

    private static void betweenArguments() {
        for (int no : Edge.outside(0, 3)) {
            Edge.noSuch("14: tower " + no, x -> x.between(no, 0));
            Edge.noSuch("14: other " + no, x -> x.between(0, no));
            Edge.noSuch("14: both " + no, x -> x.between(no, no));
        }
        Edge.asks("14: asked", Edge::busy, x -> x.between(3, 2), 2);
    }

    private static void loudestArguments() {
        for (int no : Edge.outside(0, 1)) {
            Edge.illegal("32: what " + no, x -> x.loudest(no));
        }
        Edge.asks("32: asked", Edge::busy, x -> x.loudest(0), 0);
        Edge.asks("32: how often", Edge::busy, x -> x.loudest(1), 1);
    }

    /** Bits of all there can be. */
    private static void toldOfAll() {
        WirePost x = Due.of(Edge.TOWERS + Edge.WIRES + "walker 7 0 6;".repeat(6) + "letter 7 7 5 9;".repeat(8), "1");
        Due.same("9: none is there", 0, x.told(6));
        for (int k = 0; k < 8; k++) {
            Due.work(x, "take 0 " + k + ";give 0 " + k + ";");
            Due.same("9: there, up to " + k, (2 << k) - 1, x.told(6));
        }
        Due.same("10: none lies", 0, x.tower(7, 3));
        for (int k = 0; k < 6; k++) {
            Due.work(x, "go " + k + " 0;");
            Due.same("9: fallen, up to " + k, (2 << k) - 1, x.told(7));
            Due.same("10: who stands there", 63 - x.told(7), x.tower(7, 2));
        }
        Due.same("9: six walks", 6, x.told(10));
        Due.same("11: of one wire", 6, x.wire(6, 3));
    }

    private static void towers() {
        WirePost x = Due.of("tower 40;tower 0;tower 7;wire 1 0 3;");
        Due.same("10: height", 40, x.tower(0, 0));
        Due.same("10: wires from its B", 1, x.tower(0, 1));
        Due.same("10: wires from its A", 1, x.tower(1, 1));
        Due.same("10: no wires", 0, x.tower(2, 1));
        Due.same("10: no walkers", 0, x.tower(2, 2));
        Due.same("10: no letters", 0, x.tower(2, 3));
        WirePost y = Edge.midway();
        Due.same("10: not the fallen one, who was told there", 0, y.tower(1, 2));
        Due.same("10: not what is there", 0, y.tower(1, 3));
        Due.same("10: not what is carried", 4, y.tower(0, 3));
        WirePost full = Due.of(Edge.TOWERS + Edge.WIRES);
        Due.same("10: seven wires", 127, full.tower(0, 1));
        Due.same("10: six wires", 1 + 128 + 256 + 512 + 1024 + 2048, full.tower(1, 1));
    }

    private static void wires() {
        WirePost x = Due.of("tower 0;tower 0;wire 1 0 3;walker 0 0 6;", "0");
        Due.same("11: A as told", 1, x.wire(0, 0));
        Due.same("11: B as told", 0, x.wire(0, 1));
        Due.same("11: slack as told", 3, x.wire(0, 2));
        Due.same("11: not walked", 0, x.wire(0, 3));
        Due.work(x, "slack 0 4;go 0 1;go 0 0;");
        Due.same("11: slack now", 4, x.wire(0, 2));
        Due.same("11: walked either way", 2, x.wire(0, 3));
        Due.work(x, "night;");
        Due.same("11: slack stays by night", 4, x.wire(0, 2));
        Due.same("11: not walked this day", 0, x.wire(0, 3));
    }

    private static void walkers() {
        WirePost x = Due.of("tower 0;tower 0;wire 0 1 3;walker 1 2 4;", "hum*3");
        int[] first = {1, 2, 4, 0, 0, 0, 1};
        for (int what = 0; what <= 6; what++) {
            Due.same("12: at first " + what, first[what], x.walker(0, what));
        }
        Due.work(x, "go 0 0;");
        Due.same("12: where he is", 0, x.walker(0, 0));
        Due.same("12: where he was told", 1, x.walker(0, 6));
        for (int falls = 1; falls <= 3; falls++) {
            Due.work(x, "go 0 0;go 0 1;go 0 0;");
            Due.same("12: NONE: fallen", -1, x.walker(0, 0));
            Due.same("12: how often by now", falls, x.walker(0, 5));
            Due.same("12: where he was told", 1, x.walker(0, 6));
            Due.work(x, "night;");
            Due.same("12: up again", 1, x.walker(0, 0));
            Due.same("12: as often", falls, x.walker(0, 5));
        }
    }

    /** Promise 13: the TOWER where it lies or is THERE (NONE: CARRIED), who carries it (NONE). */
    private static void letters() {
        WirePost x = Due.of("tower 0;tower 0;wire 0 1 3;walker 0 9 6;letter 0 1 5 9;", "0");
        int[] first = {0, 1, 5, 9, 0, -1, 0};
        for (int what = 0; what <= 6; what++) {
            Due.same("13: at first " + what, first[what], x.letter(0, what));
        }
        Due.work(x, "take 0 0;");
        Due.same("13: carried", -1, x.letter(0, 4));
        Due.same("13: who", 0, x.letter(0, 5));
        Due.same("13: not there", 0, x.letter(0, 6));
        Due.work(x, "go 0 1;give 0 0;");
        int[] last = {0, 1, 5, 9, 1, -1, 1};
        for (int what = 0; what <= 6; what++) {
            Due.same("13: at last " + what, last[what], x.letter(0, what));
        }
    }

    /** Promise 14: NONE (also of one alone). */
    private static void between() {
        WirePost x = Due.of(Edge.TOWERS + Edge.WIRES);
        for (int k = 0; k < 8; k++) {
            Due.same("14: of one alone " + k, -1, x.between(k, k));
        }
        Due.same("14: the first", 0, x.between(0, 1));
        Due.same("14: the last", 11, x.between(1, 6));
        Due.same("14: and back", 11, x.between(6, 1));
        Due.same("14: none", -1, x.between(1, 7));
        Due.same("14: none and back", -1, x.between(7, 1));
        Due.same("14: none of the last ones", -1, x.between(6, 7));
    }

    private static void loudestOfTheFullest() {
        WirePost x = Due.of(Edge.TOWERS + Edge.WIRES + "walker 7 0 6;".repeat(5) + "walker 6 0 6;", "0");
        Due.same("32: none of twelve was", -1, x.loudest(0));
        Due.work(x, "go 5 1;");
        Due.same("32: the last of twelve", 11, x.loudest(0));
        Due.same("32: once", 1, x.loudest(1));
        Due.same("9: one walk", 1, x.told(10));
    }

    /** Promise 32: of alike ones the first; NONE both: none was. */
    private static void loudest() {
        WirePost x = Due.of("tower 0;tower 0;tower 0;wire 0 1 0;wire 1 2 0;wire 2 0 0;walker 0 0 6;walker 2 0 6;", "0");
        Due.same("32: none was", -1, x.loudest(0));
        Due.same("32: none how often", -1, x.loudest(1));
        Due.work(x, "go 0 0;");
        Due.same("32: a refused walk is none", -1, x.loudest(0));
        Due.work(x, "go 1 0;");
        Due.same("32: the last wire", 2, x.loudest(0));
        Due.same("32: once", 1, x.loudest(1));
        Due.work(x, "go 0 1;");
        Due.same("32: of alike ones the first", 0, x.loudest(0));
        Due.work(x, "go 0 2;");
        Due.same("32: of three alike", 0, x.loudest(0));
        Due.work(x, "go 0 1;");
        Due.same("32: walked most", 1, x.loudest(0));
        Due.same("32: twice", 2, x.loudest(1));
        Due.law(x, "1");
        Due.work(x, "go 0 0;");
        Due.same("32: a fall is a walk", 0, x.loudest(0));
        Due.same("32: twice", 2, x.loudest(1));
        Due.work(x, "night;");
        Due.same("32: none this day", -1, x.loudest(0));
        Due.same("32: none how often", -1, x.loudest(1));
        x.undo();
        Due.same("32: as ahead of the night", 0, x.loudest(0));
    }
}
