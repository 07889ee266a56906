/** Edges of promise 5, and of WORK and its STEPS in the document's terms. */
public final class EdgeWorkTest {
    /** Two towers of one height and a tower apart; by its law none ever leans. */
    private static final String FLAT = "tower 0;tower 0;tower 0;wire 0 1 5;walker 0 0 6;walker 0 0 3;walker 1 0 6;"
            + "letter 0 1 3 1;letter 0 0 2 1;letter 0 2 3 1;letter 1 0 3 1;letter 0 1 5 1;";

    public static void main(String[] args) {
        stepsNumbers();
        againNumbers();
        sixOpen();
        stepWords();
        endsTooEarly();
        emptyWork();
        takeRefused();
        takeTwoAtMost();
        giveRefused();
        giveAtItsTower();
        goRefused();
        goFalls();
        goUpAndDown();
        whatHeCarriedLies();
        walkedInAnyCase();
        slackRefused();
        resinRefused();
        fogTurns();
        nightOnTheLastDay();
        nightOfAll();
        nightOfTheFullest();
        behindOneThatEndsTooEarly();
        Due.end();
    }

    private static void bad(String call, String text, int kind, int place) {
        WirePost x = Edge.midway();
        Due.same(call + ": " + text, kind - 10, Due.work(x, text));
        Due.same(call + ": place in " + text, place, x.fault());
        Edge.sameText(call + ": none is done of " + text, Edge.seen(Edge.midway()), Edge.seen(x));
    }

    /** A text of one step alone, which must be refused, and change nothing but told(9) and the works to undo. */
    private static void refused(String call, WirePost x, String step) {
        String before = state(x);
        Due.same(call + ": not done", 0, Due.work(x, step));
        Due.same(call + ": no fault", -1, x.fault());
        Due.same(call + ": refused", 1, x.told(9));
        Edge.sameText(call + ": changes nothing", before, state(x));
        Due.same(call + ": no refused call", 0, x.status(0) + x.status(1));
    }

    private static void done(String call, WirePost x, String step) {
        Due.same(call + ": done", 1, Due.work(x, step));
        Due.same(call + ": not refused", 0, x.told(9));
    }

    /** All but the steps that the latest work refused, and the works that can be undone. */
    private static String state(WirePost x) {
        return Edge.unrefused(x).split("; kept")[0];
    }

    /** A busy post has 3 walkers, 3 letters, 4 towers and 3 wires. */
    private static void stepsNumbers() {
        bad("T: take, W", "take 3 0;", 2, 5);
        bad("T: take, L", "take 0 3;", 2, 7);
        bad("T: give, W", "give 3 0;", 2, 5);
        bad("T: give, L", "give 0 3;", 2, 7);
        bad("T: go, W", "go 3 0;", 2, 3);
        bad("T: go, T", "go 0 4;", 2, 5);
        bad("T: slack, E", "slack 3 0;", 2, 6);
        bad("T: slack, S", "slack 0 10;", 2, 8);
        bad("T: resin, W", "resin 3;", 2, 6);
        bad("T: a long one", "go 4294967296 0;", 2, 3);
        bad("T: below 0", "go -1 0;", 1, 3);
        bad("T: within an again of none", "again 0[go 0 4;];", 2, 13);
        bad("T: behind steps that are right", "fog;night;resin 3;", 2, 16);
        WirePost x = Edge.midway();
        Due.work(x, "take 2 2;give 2 2;go 2 3;slack 2 9;slack 2 0;resin 2;");
        Due.same("T: the last ones of each", -1, x.fault());
        WirePost empty = new WirePost();
        Due.same("T: without walkers", -8, Due.work(empty, "resin 0;"));
        Due.same("T: at W", 6, empty.fault());
        Due.same("T: without wires", -8, Due.work(empty, "slack 0 0;"));
        WirePost alone = Due.of("tower 0;walker 0 0 0;");
        Due.same("T: without letters", -8, Due.work(alone, "take 0 0;"));
        Due.same("T: at L", 7, alone.fault());
    }

    /** again N (0 to 30). */
    private static void againNumbers() {
        WirePost x = new WirePost();
        Due.same("T: again 0", 0, Due.work(x, "again 0[night;];"));
        Due.same("T: no night", 0, x.told(4));
        Due.same("T: again 1", 1, Due.work(x, "again 1[night;];"));
        Due.same("T: again 30", 30, Due.work(x, "again 30[night;];"));
        Due.same("T: 31 nights", 31, x.told(4));
        Due.same("T: again 0030", 30, Due.work(x, "again 0030[night;];"));
        bad("T: again 31", "again 31[fog;];", 2, 6);
        bad("T: again without a number", "again [fog;];", 1, 6);
        bad("T: again -1", "again -1[fog;];", 1, 6);
    }

    /** 3: a 7th again that is open at one time. */
    private static void sixOpen() {
        String six = "again 1[".repeat(6);
        String close = "];".repeat(6);
        WirePost x = new WirePost();
        Due.same("T: six open", 1, Due.work(x, six + "night;" + close));
        Due.same("T: closed, and six again", 2, Due.work(x, six + "night;" + close + six + "night;" + close));
        Due.same("T: one behind the other", 7, Due.work(x, "again 1[night;];".repeat(7)));
        Due.same("T: within five, two behind one another", 2,
                Due.work(x, "again 1[".repeat(5) + "again 1[night;];again 1[night;];" + "];".repeat(5)));
        bad("T: a 7th", six + "again 1[fog;];" + close, 3, 48);
        bad("T: behind blanks", six + "  again 1[fog;];" + close, 3, 50);
        bad("T: behind a step", six + "fog;again 1[];" + close, 3, 52);
        bad("T: its word alone", six + "again", 3, 48);
        bad("T: whatever its number", six + "again 31[];" + close, 3, 48);
        bad("T: never to be begun", "again 0[".repeat(6) + "again 1[];" + close, 3, 48);
        bad("T: a word that is none", six + "agains 1[];" + close, 1, 48);
    }

    private static void stepWords() {
        bad("T: a word that is none", "walk 0 1;", 1, 0);
        bad("T: a letter more", "fogs;", 1, 0);
        bad("T: a letter fewer", "nigh;", 1, 0);
        bad("T: great letters", "Fog;", 1, 0);
        bad("T: a city's word", "tower 1;", 1, 0);
        bad("T: fog takes no number", "fog 1;", 1, 4);
        bad("T: night takes no number", "night 1;", 1, 6);
        bad("T: resin takes one", "resin 0 0;", 1, 8);
        bad("T: go takes two", "go 0;", 1, 4);
        bad("T: go takes two alone", "go 0 1 2;", 1, 7);
        bad("T: no step", ";", 1, 0);
        bad("T: two ends", "fog;;", 1, 4);
        bad("T: ] that closes nothing", "];", 1, 0);
        bad("T: ] that closes nothing behind", "again 1[];];", 1, 10);
        bad("T: no ; ahead of ]", "again 1[fog];", 1, 11);
        bad("T: again by (", "again 1(fog;);", 1, 7);
        bad("T: a number for a step", "1;", 1, 0);
        WirePost x = new WirePost();
        Due.same("T: blanks everywhere", 2, Due.work(x, "  again  2  [  night  ;  ]  ;  "));
        Due.same("T: none", 2, Due.work(x, "again2[night;];"));
    }

    private static void endsTooEarly() {
        bad("T: behind a word", "fog", 1, 3);
        bad("T: behind blanks", "fog  ", 1, 5);
        bad("T: behind W", "take 0", 1, 6);
        bad("T: ahead of ;", "take 0 0", 1, 8);
        bad("T: behind again", "again", 1, 5);
        bad("T: behind N", "again 3", 1, 7);
        bad("T: behind [", "again 3[", 1, 8);
        bad("T: behind a step", "again 3[fog; ", 1, 13);
        bad("T: behind ]", "again 3[fog;]", 1, 13);
        bad("T: one of two open", "again 3[again 3[];", 1, 18);
    }

    private static void behindOneThatEndsTooEarly() {
        WirePost x = new WirePost();
        Due.same("T: two are left open", -9, Due.work(x, "again 2[again 3["));
        Due.same("T: a text anew", 1, Due.work(x, "fog;"));
        Due.same("T: in which none is open", -9, Due.work(x, "fog;];"));
        Due.same("T: and six can be", 1, Due.work(x, "again 1[".repeat(6) + "fog;" + "];".repeat(6)));
    }

    private static void emptyWork() {
        WirePost x = Edge.midway();
        String before = state(x);
        Due.same("5: no steps are done by none", 0, x.work(0));
        Edge.sameText("5: it changes nothing", before, state(x));
        Due.same("5: it is a work", 3, x.count(2));
        Due.same("9: by which none was refused", 0, x.told(9));
        Due.same("5: nor by blanks", 0, Due.work(x, "   "));
        Due.same("5: an again alone is not counted", 0, Due.work(x, "again 30[];"));
        Due.same("9: nor refused", 0, x.told(9));
        Due.same("8: they are undone", 4, x.undo());
    }

    /** take: REFUSED, if he has FALLEN, L does not lie where he is, is of no KIND he takes, or he carries 2. */
    private static void takeRefused() {
        refused("T2: he has fallen", Edge.midway(), "take 2 2;");
        refused("T2: it lies elsewhere", Edge.midway(), "take 1 2;");
        refused("T2: it lies at his wire's other end", Due.of(FLAT, "0"), "take 2 4;");
        WirePost x = Due.of(FLAT, "0");
        refused("T2: of no kind he takes", x, "take 1 1;");
        refused("T2: of a greater kind", x, "take 1 4;");
        done("T2: of the kind he takes", x, "take 1 0;");
        refused("T2: he carries it", x, "take 1 0;");
        refused("T2: another one carries it", x, "take 0 0;");
        done("T2: of any kind", x, "take 0 1;");
        done("T2: given at its T", x, "give 0 1;");
        refused("T2: it is there, where he is", x, "take 0 1;");
        Due.same("9: as told", 2, x.told(6));
    }

    private static void takeTwoAtMost() {
        WirePost x = Due.of(FLAT, "0");
        done("T2: one", x, "take 0 0;");
        done("T2: two", x, "take 0 1;");
        refused("T2: a third", x, "take 0 2;");
        refused("T2: another third", x, "take 0 4;");
        Due.same("12: two", 3, x.walker(0, 3));
        done("T2: one given", x, "give 0 0;");
        done("T2: then the third", x, "take 0 2;");
        Due.same("12: two", 6, x.walker(0, 3));
        done("T2: another walker has his own two", x, "take 1 0;");
    }

    /** give: REFUSED, if he does not carry it. */
    private static void giveRefused() {
        WirePost x = Due.of(FLAT, "0");
        refused("T2: it lies where he is", x, "give 0 0;");
        refused("T2: it lies elsewhere", x, "give 0 3;");
        done("T2: taken", x, "take 0 0;");
        refused("T2: another one carries it", x, "give 1 0;");
        done("T2: he carries it", x, "give 0 0;");
        refused("T2: no more", x, "give 0 0;");
        refused("T2: it is there", Edge.midway(), "give 2 1;");
        refused("T2: he has fallen", Edge.midway(), "give 2 2;");
    }

    /** give: L lies where he is; is THERE, if that is its T. */
    private static void giveAtItsTower() {
        WirePost x = Due.of(FLAT, "0");
        done("T2: taken", x, "take 0 0;");
        done("T2: given where it was", x, "give 0 0;");
        Due.same("13: it lies", 0, x.letter(0, 4));
        Due.same("13: not there", 0, x.letter(0, 6));
        Due.work(x, "take 0 0;go 0 1;");
        Due.same("13: at its T, but carried", -1, x.letter(0, 4));
        Due.same("9: not there", 0, x.told(6));
        done("T2: given", x, "give 0 0;");
        Due.same("13: it is at its T", 1, x.letter(0, 4));
        Due.same("13: there", 1, x.letter(0, 6));
        Due.same("9: there", 1, x.told(6));
        Due.same("10: it does not lie", 8, x.tower(1, 3));
        Due.same("10: nor where it came from", 22, x.tower(0, 3));
    }

    /** go: REFUSED, if there is none, or he has FALLEN. */
    private static void goRefused() {
        WirePost x = Due.of(FLAT, "0");
        refused("T2: no wire", x, "go 0 2;");
        refused("T2: where he is", x, "go 0 0;");
        refused("T2: he has fallen", Edge.midway(), "go 2 0;");
        refused("T2: he has fallen, from where he was told", Edge.midway(), "go 2 2;");
        done("T2: along a wire", x, "go 0 1;");
        done("T2: and back", x, "go 0 0;");
        Due.same("11: walked twice", 2, x.wire(0, 3));
    }

    /** go: LEAN by size no more than his NERVE: he is at T; more: he has FALLEN. */
    private static void goFalls() {
        String city = "tower 0;tower 0;wire 0 1 5;walker 0 5 6;walker 1 5 6;";
        String[] laws = {"slack", "slack+1", "0-slack", "0-slack-1"};
        for (int k = 0; k < laws.length; k++) {
            WirePost x = Due.of(city, laws[k]);
            done("T2: by " + laws[k], x, "go 0 1;");
            Due.same("12: where he is by " + laws[k], k % 2 == 0 ? 1 : -1, x.walker(0, 0));
            Due.same("12: falls by " + laws[k], k % 2, x.walker(0, 5));
            Due.same("9: fallen by " + laws[k], k % 2, x.told(7));
            Due.same("10: not at 0", 0, x.tower(0, 2));
            Due.same("10: at 1 by " + laws[k], k % 2 == 0 ? 3 : 2, x.tower(1, 2));
            Due.same("12: the told tower stays", 0, x.walker(0, 6));
        }
    }

    /** "rise": HEIGHT to which less that from which, whichever end was told first. */
    private static void goUpAndDown() {
        for (String wire : new String[] {"wire 0 1 0;", "wire 1 0 0;"}) {
            WirePost x = Due.of("tower 3;tower 9;" + wire + "walker 0 5 6;walker 1 5 6;", "most[rise,0]");
            Due.work(x, "go 1 0;");
            Due.same("12: down by " + wire, 0, x.walker(1, 0));
            Due.work(x, "go 0 1;");
            Due.same("12: not up by " + wire, -1, x.walker(0, 0));
            Due.law(x, "least[rise,0]");
            Due.work(x, "go 1 1;");
            Due.same("12: up by " + wire, 1, x.walker(1, 0));
            Due.work(x, "go 1 0;");
            Due.same("12: not down by " + wire, -1, x.walker(1, 0));
        }
    }

    /** What he carried lies where he went from (is THERE, if that is its T). */
    private static void whatHeCarriedLies() {
        WirePost x = Due.of(FLAT, "letters");
        Due.work(x, "take 0 0;take 0 1;go 0 1;");
        Due.same("12: fallen", -1, x.walker(0, 0));
        Due.same("12: he carries nothing", 0, x.walker(0, 3));
        Due.same("13: to 1, lies at 0", 0, x.letter(0, 4));
        Due.same("13: carried by none", -1, x.letter(0, 5));
        Due.same("13: not there", 0, x.letter(0, 6));
        Due.same("13: to 0, is there", 1, x.letter(1, 6));
        Due.same("13: at 0", 0, x.letter(1, 4));
        Due.same("9: it alone", 2, x.told(6));
        Due.same("10: what lies at 0", 21, x.tower(0, 3));
        done("T2: who has not fallen takes it", x, "take 1 0;");
        Due.work(x, "night;");
        Due.same("12: up again, he carries nothing", 0, x.walker(0, 3));
        Due.same("13: what is there stays so", 2, x.told(6));
    }

    /** The WIRE was walked once more in any case; by the LAW it hums as it did ahead of the walk. */
    private static void walkedInAnyCase() {
        WirePost x = Due.of("tower 0;tower 0;wire 0 1 5;walker 0 1 6;", "hum");
        done("T2: by hum 0", x, "go 0 1;");
        done("T2: by hum 1", x, "go 0 0;");
        Due.same("12: he is over", 0, x.walker(0, 0));
        done("T2: by hum 2", x, "go 0 1;");
        Due.same("12: he has fallen", -1, x.walker(0, 0));
        Due.same("11: walked three times", 3, x.wire(0, 3));
        Due.same("9: three walks", 3, x.told(10));
        WirePost y = Due.of(FLAT, "0");
        for (int k = 0; k < 6; k++) {
            Due.same("5: many walks", 180, Due.work(y, "again 3[again 30[go 0 1;go 0 0;];];"));
        }
        Due.same("11: more than 999 are not cut", 1080, y.wire(0, 3));
        Due.same("9: walks", 1080, y.told(10));
        Due.same("32: loudest", 1080, y.loudest(1));
        Due.law(y, "hum - 999");
        Due.same("15: by the law, too", 81, y.lean(0, 0, 0));
    }

    /** slack: SLACK of E is S, 0 to 9 (REFUSED, if it is). */
    private static void slackRefused() {
        WirePost x = Due.of(FLAT, "0");
        refused("T2: it is 5", x, "slack 0 5;");
        done("T2: 0", x, "slack 0 0;");
        Due.same("11: 0", 0, x.wire(0, 2));
        refused("T2: it is 0", x, "slack 0 0;");
        done("T2: 9", x, "slack 0 9;");
        Due.same("11: 9", 9, x.wire(0, 2));
        refused("T2: it is 9", x, "slack 0 9;");
        done("T2: 5 again", x, "slack 0 5;");
    }

    /** resin: W has put on 1 more (9 at most; REFUSED, if he has 9, or has FALLEN). */
    private static void resinRefused() {
        WirePost x = Due.of(FLAT, "0");
        for (int k = 1; k <= 9; k++) {
            done("T2: resin " + k, x, "resin 1;");
            Due.same("12: resin " + k, k, x.walker(1, 4));
        }
        refused("T2: a tenth", x, "resin 1;");
        done("T2: another one has none yet", x, "resin 0;");
        refused("T2: he has fallen", Edge.midway(), "resin 2;");
        WirePost y = Due.of(FLAT, "1");
        Due.work(y, "resin 0;go 0 1;");
        Due.same("12: who has fallen keeps what he put on", 1, y.walker(0, 4));
        refused("T2: and puts on no more", y, "resin 0;");
    }

    private static void fogTurns() {
        WirePost x = new WirePost();
        Due.same("T2: no fog at first", 0, x.told(5));
        done("T2: fog", x, "fog;");
        Due.same("9: fog", 1, x.told(5));
        done("T2: none any more", x, "fog;");
        Due.same("9: none", 0, x.told(5));
        Due.same("T2: never refused", 30, Due.work(x, "again 30[fog;];"));
        Due.same("9: thirty times", 0, x.told(5));
    }

    /** night: REFUSED on DAY 700. */
    private static void nightOnTheLastDay() {
        WirePost x = Due.of(FLAT, "day - 650");
        for (int k = 0; k < 3; k++) {
            Due.same("5: nights", 192, Due.work(x, "again 30[again 30[night;];];"));
        }
        Due.same("5: to day 699", 123, Due.work(x, "again 4[again 30[night;];];again 3[night;];"));
        Due.same("9: day 699", 699, x.told(4));
        done("T2: a night on day 699", x, "night;");
        Due.same("9: day 700", 700, x.told(4));
        Due.same("5: some more", 3, Due.work(x, "fog;resin 0;slack 0 6;"));
        refused("T2: a night on day 700", x, "night;");
        Due.same("9: fog stays", 1, x.told(5));
        Due.same("12: resin stays", 1, x.walker(0, 4));
        Due.same("15: by the law", 50, x.lean(0, 0, 0));
        Due.same("5: nor are more", 0, Due.work(x, "night;night;night;"));
        Due.same("9: each is refused", 3, x.told(9));
    }

    private static void nightOfTheFullest() {
        String city = Edge.TOWERS + Edge.WIRES + "walker 7 0 6;".repeat(6) + "letter 7 7 0 1;".repeat(8);
        WirePost x = Due.of(city, "resin");
        Due.work(x, "resin 0;resin 5;go 0 0;go 5 0;take 1 0;take 1 7;");
        done("T2: a night of the fullest city", x, "night;");
        for (int k = 0; k < 6; k++) {
            Due.same("12: all at 7, walker " + k, 7, x.walker(k, 0));
            Due.same("12: falls of " + k, k % 5 == 0 ? 1 : 0, x.walker(k, 5));
            Due.same("12: no resin of " + k, 0, x.walker(k, 4));
        }
        Due.same("12: what he carries", 129, x.walker(1, 3));
        Due.same("10: the others lie", 126, x.tower(7, 3));
        Due.same("9: no walks", 0, x.told(10));
    }

    /** night: nothing hums; nobody has resin; who has FALLEN stands at the TOWER he was told at; no fog. */
    private static void nightOfAll() {
        WirePost x = Edge.midway();
        done("T2: a night", x, "night;");
        Due.same("9: one day more", 2, x.told(4));
        Due.same("9: no fog", 0, x.told(5));
        Due.same("9: nobody has fallen", 0, x.told(7));
        Due.same("9: no walks of this day", 0, x.told(10));
        for (int k = 0; k < 3; k++) {
            Due.same("11: nothing hums " + k, 0, x.wire(k, 3));
            Due.same("12: nobody has resin " + k, 0, x.walker(k, 4));
        }
        Due.same("12: where he was told", 1, x.walker(2, 0));
        Due.same("12: his falls stay", 1, x.walker(2, 5));
        Due.same("12: who has not fallen stays where he is", 3, x.walker(1, 0));
        Due.same("12: and carries what he did", 1, x.walker(0, 3));
        Due.same("9: what is there stays so", 2, x.told(6));
        Due.same("32: none was walked", -1, x.loudest(0));
        WirePost y = new WirePost();
        done("T2: a night without fog, falls and walkers", y, "night;");
        Due.same("9: no fog comes by it", 0, y.told(5));
    }
}
