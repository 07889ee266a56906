import java.util.function.IntBinaryOperator;

/** Edges of promises 33 and 34: SEASONS by SEEDS. */
public final class EdgeSeasonTest {
    private static final int[] SEEDS = {0, 1, -1, 7, 12345, 65536, Edge.MAX, Edge.MIN};
    /** Two towers and a wire; one letter to the other tower. */
    private static final String PAIR = "tower 0;tower 0;wire 0 1 0;walker 0 0 6;letter 0 1 0 1;";

    public static void main(String[] args) {
        draws();
        walks();
        nights();
        withoutWalkers();
        fogNever();
        fogAlways();
        fogFromNow();
        fogByNight();
        beyondTheLastDay();
        fallsAndUpAgain();
        givesThenTakes();
        fallenDoesNothing();
        asItIsNow();
        seasonArguments();
        spanOfOne();
        spanWraps();
        spanOfAll();
        spanArguments();
        Due.end();
    }

    /** The document's DRAW by numbers of 64 bits, cut to 32. */
    private static final class Draw {
        private long seed;

        Draw(int seed) {
            this.seed = seed & 0xffffffffL;
        }

        int by(int n) {
            seed = (seed * 1103515245L + 12345L) & 0xffffffffL;
            return (int) (seed / 65536 % 32768 % n);
        }
    }

    /** Walker, tower and fog of each walk, of a city of one walker and two towers: which tower he is sent to. */
    private static int[] sent(int seed, int walks) {
        Draw draw = new Draw(seed);
        int[] to = new int[walks];
        for (int k = 0; k < walks; k++) {
            draw.by(1);
            to[k] = draw.by(2);
            draw.by(16);
        }
        return to;
    }

    /** DRAW by so many: seed 0 becomes 12,345, whose bits 16 to 30 are 0; then 3,554,416,254, 54,236 by 65,536. */
    private static void draws() {
        Draw draw = new Draw(0);
        Due.same("33: the first of seed 0", 0, draw.by(32768));
        Due.same("33: the second: 54,236 less 32,768", 21468, draw.by(32768));
        int[] to = sent(0, 1);
        Due.same("33: so he is sent to 0", 0, to[0]);
        WirePost x = Due.of(PAIR, "0");
        Due.same("33: where he is: no walk", 0, x.season(0, 0, 1, 2));
        for (int seed : SEEDS) {
            int at = 0;
            int done = 0;
            int[] all = sent(seed, 96);
            for (int walks = 1; walks <= 96; walks++) {
                done += all[walks - 1] == at ? 0 : 1;
                at = all[walks - 1];
                if (walks < 4 || walks == 95 || walks == 96) {
                    Due.same("33: walks of seed " + seed + ", " + walks, done, x.season(seed, 0, walks, 2));
                }
            }
        }
    }

    /** walks (1 to 96). */
    private static void walks() {
        WirePost x = Due.of(PAIR, "1");
        for (int seed : SEEDS) {
            int[] to = sent(seed, 96);
            int falls = 0;
            boolean fallen = false;
            for (int k = 0; k < 96; k++) {
                if (to[k] == 1 && !fallen) {
                    falls++;
                    fallen = true;
                }
                fallen &= k % 8 != 7;
                if (k == 0 || k == 95) {
                    Due.same("33: falls of " + (k + 1) + " by " + seed, falls, x.season(seed, 16, k + 1, 1));
                    Due.same("33: walks, falls, too", falls, x.season(seed, 16, k + 1, 2));
                }
            }
        }
    }

    /** Behind each 8th a night; what 3: DAYS of it. */
    private static void nights() {
        WirePost x = Due.of(PAIR, "0");
        int[] walks = {1, 7, 8, 9, 15, 16, 17, 88, 95, 96};
        int[] days = {0, 0, 1, 1, 1, 2, 2, 11, 11, 12};
        for (int k = 0; k < walks.length; k++) {
            Due.same("33: days of " + walks[k], days[k], x.season(5, 3, walks[k], 3));
        }
        Due.work(x, "night;night;");
        Due.same("33: of the season alone", 1, x.season(5, 3, 8, 3));
        Due.same("33: the day stays", 2, x.told(4));
    }

    /** Without WALKERS nothing is done. */
    private static void withoutWalkers() {
        WirePost x = Due.of("tower 0;tower 0;wire 0 1 0;letter 0 0 0 1;");
        for (int what = 0; what <= 3; what++) {
            Due.same("33: nothing, what " + what, 0, x.season(Edge.MAX, 16, 96, what));
        }
        Due.same("34: fewest", 0, x.span(3, 20, 16, 96, 0));
        Due.same("34: most", 0, x.span(3, 20, 16, 96, 1));
        Due.same("34: nobody falls by any", 20, x.span(3, 20, 16, 96, 2));
        Due.same("34: nor by one", 1, x.span(3, 1, 0, 1, 2));
    }

    /** How often a walker falls who stands at 0, by the law 1 in fog, walking when he is sent to the other tower. */
    private static int foggyFalls(int seed, int q, int walks, boolean foggy) {
        Draw draw = new Draw(seed);
        boolean fog = foggy;
        boolean fallen = false;
        int at = 0;
        int falls = 0;
        for (int k = 1; k <= walks; k++) {
            draw.by(1);
            int to = draw.by(2);
            if (!fallen && to != at) {
                fallen = fog;
                falls += fog ? 1 : 0;
                at = fog ? 0 : to;
            }
            fog ^= draw.by(16) < q;
            if (k % 8 == 0) {
                fallen = false;
                fog = false;
            }
        }
        return falls;
    }

    private static void fogs(String call, WirePost x, int q, boolean foggy) {
        int all = 0;
        for (int seed : SEEDS) {
            for (int walks : new int[] {1, 2, 8, 9, 40, 96}) {
                int falls = foggyFalls(seed, q, walks, foggy);
                Due.same(call + ", seed " + seed + ", " + walks, falls, x.season(seed, q, walks, 1));
                all += falls;
            }
        }
        Due.same(call + ": some fall, if fog comes", q > 0 || foggy ? 1 : 0, all > 0 ? 1 : 0);
    }

    /** DRAW by 16 below Q: fog (as by fog). Q 0: never. */
    private static void fogNever() {
        fogs("33: q 0", Due.of(PAIR, "fog"), 0, false);
    }

    /** Q 16: behind each walk, so that fog comes and goes. */
    private static void fogAlways() {
        fogs("33: q 16", Due.of(PAIR, "fog"), 16, false);
        fogs("33: q 15", Due.of(PAIR, "fog"), 15, false);
        fogs("33: q 1", Due.of(PAIR, "fog"), 1, false);
        fogs("33: q 8", Due.of(PAIR, "fog"), 8, false);
    }

    private static void fogFromNow() {
        WirePost x = Due.of(PAIR, "fog");
        Due.work(x, "fog;");
        fogs("33: fog now, q 0", x, 0, true);
        WirePost y = Due.of(PAIR, "fog");
        Due.work(y, "fog;");
        fogs("33: fog now, q 16", y, 16, true);
        Due.same("33: it stays now", 1, y.told(5));
    }

    /** From fog on, turned behind each of eight walks, there is fog again, which the night takes. */
    private static void fogByNight() {
        WirePost x = Due.of(PAIR, "fog");
        Due.work(x, "fog;");
        int walked = 0;
        for (int seed : SEEDS) {
            Due.same("33: no fall on the 9th walk, seed " + seed, x.season(seed, 16, 8, 1), x.season(seed, 16, 9, 1));
            walked += x.season(seed, 16, 9, 2) - x.season(seed, 16, 8, 2);
        }
        Due.same("33: though some walked", 1, walked > 0 ? 1 : 0);
    }

    /** Nights beyond 700, too. */
    private static void beyondTheLastDay() {
        WirePost x = Due.of(PAIR, "day - 700");
        for (int k = 0; k < 4; k++) {
            Due.work(x, "again 6[again 30[night;];];");
        }
        Due.same("9: day 700", 700, x.told(4));
        for (int seed : SEEDS) {
            int at = 0;
            int falls = 0;
            boolean fallen = false;
            int[] to = sent(seed, 96);
            for (int k = 0; k < 96; k++) {
                if (!fallen && to[k] != at) {
                    fallen = k >= 8;
                    falls += k >= 8 ? 1 : 0;
                    at = k >= 8 ? at : to[k];
                }
                if (fallen && k % 8 == 7) {
                    fallen = false;
                    at = 0;
                }
            }
            Due.same("33: none falls on day 700", 0, x.season(seed, 0, 8, 1));
            Due.same("33: from day 701 on all do, seed " + seed, falls, x.season(seed, 0, 96, 1));
        }
        Due.same("33: twelve days", 12, x.season(1, 0, 96, 3));
        Due.same("9: day 700 still", 700, x.told(4));
        Due.same("5: whose night is refused", 0, Due.work(x, "night;"));
    }

    /** Who falls stands by night where he was told; walks are no more done by him till then. */
    private static void fallsAndUpAgain() {
        WirePost x = Due.of(PAIR, "1");
        Due.same("33: once a day at most", 1, x.season(1, 0, 96, 1) <= 12 ? 1 : 0);
        Due.work(x, "go 0 1;");
        Due.same("12: fallen now", -1, x.walker(0, 0));
        for (int seed : SEEDS) {
            Due.same("33: no walk on the first day", 0, x.season(seed, 0, 8, 2));
            Due.same("33: no fall", 0, x.season(seed, 0, 8, 1));
        }
        Due.same("33: falls of the season alone", x.season(3, 0, 96, 2), x.season(3, 0, 96, 1));
        Due.same("12: falls now", 1, x.walker(0, 5));
    }

    /** He gives what he carries, then takes what lies there, each that he can, by number. */
    private static void givesThenTakes() {
        WirePost x = Due.of("tower 0;walker 0 0 2;letter 0 0 1 1;" + "letter 0 0 2 1;".repeat(7));
        int[] there = {0, 2 + 4, 2 + 4 + 8 + 16, 126, 254, 254};
        for (int walks = 1; walks <= 6; walks++) {
            Due.same("33: two at a time, behind " + walks, there[walks - 1], x.season(9, 0, walks, 0));
        }
        Due.same("33: no walk can be done", 0, x.season(9, 0, 96, 2));
        Due.work(x, "take 0 4;");
        Due.same("33: what he carries first", 16, x.season(9, 0, 1, 0));
        Due.same("33: then by number", 16 + 2 + 4, x.season(9, 0, 2, 0));
        WirePost y = Due.of("tower 0;tower 0;walker 0 0 6;letter 0 1 0 1;letter 0 1 0 1;letter 0 0 0 1;");
        Due.same("33: what he gives lies there and is taken again by number", 0, y.season(9, 0, 96, 0));
        Due.work(y, "take 0 1;take 0 2;");
        Due.same("33: both given, one of them at its T", 4, y.season(9, 0, 1, 0));
    }

    /** Who has fallen neither gives nor takes; what he carried lies where he went from. */
    private static void fallenDoesNothing() {
        WirePost x = Due.of("tower 0;tower 0;wire 0 1 0;walker 0 0 6;letter 0 0 0 1;", "1");
        Due.work(x, "go 0 1;");
        for (int walks = 1; walks <= 8; walks++) {
            Due.same("33: nothing is given behind " + walks, 0, x.season(2, 0, walks, 0));
        }
        Due.same("33: once he is up again it is", 1, x.season(2, 0, 10, 0));
        WirePost y = Due.of("tower 0;tower 0;wire 0 1 0;walker 0 0 6;letter 0 0 0 1;", "letters");
        Due.work(y, "take 0 0;");
        for (int seed : SEEDS) {
            int to = sent(seed, 1)[0];
            Due.same("33: given by a fall at its T, or by hand", 1, y.season(seed, 0, 1, 0));
            Due.same("33: a fall, if he is sent away", to, y.season(seed, 0, 1, 1));
        }
    }

    /** It begins as all is now, and nothing stays changed. */
    private static void asItIsNow() {
        for (int what = 0; what <= 3; what++) {
            int asked = what;
            long want = Edge.busy().season(11, 7, 96, what);
            Edge.asks("33: asked, what " + what, Edge::busy, x -> x.season(11, 7, 96, asked), want);
        }
        for (int what = 0; what <= 2; what++) {
            int asked = what;
            long want = Edge.busy().span(11, 20, 7, 96, what);
            Edge.asks("34: asked, what " + what, Edge::busy, x -> x.span(11, 20, 7, 96, asked), want);
        }
        WirePost x = Edge.busy();
        Due.same("33: what is there is there then", 2, x.season(1, 0, 1, 0) & 2);
        Due.same("33: again the same", x.season(5, 9, 60, 2), x.season(5, 9, 60, 2));
    }

    private static void seasonArguments() {
        for (int no : Edge.outside(0, 16)) {
            Edge.illegal("33: q " + no, x -> x.season(1, no, 1, 0));
            Edge.illegal("34: q " + no, x -> x.span(1, 1, no, 1, 0));
        }
        for (int no : Edge.outside(1, 96)) {
            Edge.illegal("33: walks " + no, x -> x.season(1, 0, no, 0));
            Edge.illegal("34: walks " + no, x -> x.span(1, 1, 0, no, 0));
        }
        for (int no : Edge.outside(0, 3)) {
            Edge.illegal("33: what " + no, x -> x.season(1, 0, 1, no));
        }
        WirePost none = new WirePost();
        Due.illegal("33: without walkers, too", () -> none.season(1, 0, 0, 0));
        Due.illegal("34: without walkers, too", () -> none.span(1, 21, 0, 1, 0));
    }

    private static void spanArguments() {
        for (int no : Edge.outside(1, 20)) {
            Edge.illegal("34: many " + no, x -> x.span(1, no, 0, 1, 0));
        }
        for (int no : Edge.outside(0, 2)) {
            Edge.illegal("34: what " + no, x -> x.span(1, 1, 0, 1, no));
        }
    }

    /** Of one SEED: as its season. */
    private static void spanOfOne() {
        WirePost x = Due.of(PAIR, "fog");
        for (int seed : SEEDS) {
            int there = x.season(seed, 5, 9, 0);
            Due.same("34: fewest by one", there, x.span(seed, 1, 5, 9, 0));
            Due.same("34: most by one", there, x.span(seed, 1, 5, 9, 1));
            Due.same("34: by one", x.season(seed, 5, 9, 1) == 0 ? 1 : 0, x.span(seed, 1, 5, 9, 2));
        }
    }

    private static int over(int seed, int many, IntBinaryOperator fold, int first, WirePost x, int what) {
        int out = first;
        for (int k = 0; k < many; k++) {
            int answer = x.season(seed + k, 5, 20, what);
            out = fold.applyAsInt(out, what == 0 ? Integer.bitCount(answer) : answer == 0 ? 1 : 0);
        }
        return out;
    }

    /** Seed, seed and 1, ..: they wrap. */
    private static void spanWraps() {
        WirePost x = Due.of(PAIR, "fog");
        int unfallen = 0;
        for (int seed : new int[] {Edge.MAX - 1, Edge.MAX, Edge.MIN, Edge.MIN + 1}) {
            unfallen += x.season(seed, 9, 20, 1) == 0 ? 1 : 0;
        }
        Due.same("34: four seeds from 2 below the end", unfallen, x.span(Edge.MAX - 1, 4, 9, 20, 2));
    }

    private static void spanOfAll() {
        for (int seed : new int[] {-19, 0, 100, Edge.MAX - 9}) {
            for (int many : new int[] {1, 2, 19, 20}) {
                WirePost x = Due.of(Edge.CITY, "slack + fog*3 + hum");
                Due.same("34: fewest of " + many, over(seed, many, Math::min, 8, x, 0), x.span(seed, many, 5, 20, 0));
                Due.same("34: most of " + many, over(seed, many, Math::max, 0, x, 0), x.span(seed, many, 5, 20, 1));
                Due.same("34: nobody falls", over(seed, many, Integer::sum, 0, x, 1), x.span(seed, many, 5, 20, 2));
            }
        }
        WirePost eight = Due.of("tower 0;walker 0 0 6;" + "letter 0 0 0 1;".repeat(8));
        Due.same("34: fewest: all eight", 8, eight.span(1, 20, 0, 96, 0));
        Due.same("34: most: all eight", 8, eight.span(1, 20, 0, 96, 1));
        Due.same("34: nobody falls", 20, eight.span(1, 20, 0, 96, 2));
    }
}
