/** Promises 15 to 34: what is asked of a post, with answers reckoned by hand. */
public final class AskTest {
    /** A square 0 1 3 2 and a slack wire on to 4; 5 stands apart. */
    private static final String SQUARE = "tower 0;tower 0;tower 0;tower 0;tower 0;tower 0;wire 0 2 1;wire 0 1 1;"
            + "wire 2 3 1;wire 1 3 1;wire 3 4 9;";

    public static void main(String[] args) {
        lean();
        would();
        over();
        ways();
        oneWayWires();
        send();
        sendWithIt();
        meet();
        partsAndBridges();
        frame();
        fits();
        look();
        match();
        matchFirst();
        likely();
        middle();
        share();
        season();
        seasonOfFalls();
        seasonOfTwoLetters();
        span();
        wrongArguments();
        Due.end();
    }

    private static void lean() {
        WirePost x = Due.of("tower 3;tower 10;wire 0 1 4;walker 0 30 6;walker 1 0 0;letter 0 1 5 9;letter 0 1 2 3;",
                "slack + rise*2 + load + kind*3 + letters*20 + hum*7 + fog*11 - resin + day*5");
        Due.same("along", 18, x.lean(0, 0, 0));
        Due.same("back", -10, x.lean(0, 0, 1));
        Due.work(x, "take 0 0;take 0 1;");
        Due.same("with two: 18 + 12 + 15 + 40", 85, x.lean(0, 0, 0));
        Due.same("another one carries nothing", 18, x.lean(1, 0, 0));
        Due.work(x, "resin 0;fog;");
        Due.same("in fog with resin", 95, x.lean(0, 0, 0));
        Due.same("in fog", 29, x.lean(1, 0, 0));
        Due.work(x, "go 1 0;");
        Due.same("a fallen one leans: 18 + 11 + 7", 36, x.lean(1, 0, 0));
        Due.same("99 at most", 99, x.lean(0, 0, 0));
        Due.work(x, "slack 0 0;night;");
        Due.same("slack 0, day 1", 86, x.lean(0, 0, 0));
        Due.same("without a law: 0 + 12 + 5", 1, Due.law(x, "slack*2+load+kind"));
        Due.same("by it", 17, x.lean(0, 0, 1));
    }

    private static void would() {
        WirePost x = new WirePost();
        Due.same("without a law", 41, x.would(9, 40, 18, 5, 2, 999, 1, 9, 700));
        Due.same("at least", 0, x.would(0, -40, 0, 0, 0, 0, 0, 0, 0));
        Due.law(x, "hum*0 + rise*1000/1000");
        Due.same("1000 is none such", 13, x.fault());
        Due.law(x, "day - hum");
        Due.same("-99 at least", -99, x.would(0, 0, 0, 0, 0, 999, 0, 0, 0));
        Due.same("99 at most", 99, x.would(0, 0, 0, 0, 0, 0, 0, 0, 700));
        Due.same("between", -1, x.would(0, 0, 0, 0, 0, 700, 0, 0, 699));
        int[] most = {9, 40, 18, 5, 2, 999, 1, 9, 700};
        for (int k = 0; k < 9; k++) {
            int[] a = new int[9];
            a[k] = most[k] + 1;
            Due.illegal("would, above, " + k, () -> x.would(a[0], a[1], a[2], a[3], a[4], a[5], a[6], a[7], a[8]));
            int[] b = new int[9];
            b[k] = k == 1 ? -41 : -1;
            Due.illegal("would, below, " + k, () -> x.would(b[0], b[1], b[2], b[3], b[4], b[5], b[6], b[7], b[8]));
        }
        Due.same("status", 18, x.status(1));
    }

    private static void over() {
        WirePost x = Due.of("tower 3;tower 10;tower 10;wire 0 1 4;walker 2 10 6;walker 2 11 6;", "slack + rise");
        Due.same("11 by nerve 10", 0, x.over(0, 0, 0) ? 1 : 0);
        Due.same("-3 by nerve 10", 1, x.over(0, 0, 1) ? 1 : 0);
        Due.same("11 by nerve 11", 1, x.over(1, 0, 0) ? 1 : 0);
        Due.law(x, "0-11");
        Due.same("by size", 0, x.over(0, 0, 1) ? 1 : 0);
        Due.same("by size, as great", 1, x.over(1, 0, 1) ? 1 : 0);
    }

    private static void ways() {
        WirePost x = Due.of(SQUARE + "walker 0 5 6;walker 4 9 6;", "slack");
        Due.same("reach", 15, x.reach(0));
        Due.same("reach of nerve 9", 31, x.reach(1));
        Due.same("two wires", 2, x.way(0, 3, 0));
        Due.same("the first tower, the least", 1, x.way(0, 3, 1));
        Due.same("one wire", 1, x.way(0, 2, 0));
        Due.same("its tower", 2, x.way(0, 2, 1));
        Due.same("none to himself", 0, x.way(0, 0, 0));
        Due.same("no first", -1, x.way(0, 0, 1));
        Due.same("can't", -1, x.way(0, 4, 0));
        Due.same("can't, no first", -1, x.way(0, 4, 1));
        Due.same("apart", -1, x.way(0, 5, 0));
        Due.same("from 4 to 0", 3, x.way(1, 0, 0));
        Due.same("from 4 by 3", 3, x.way(1, 0, 1));
        Due.work(x, "slack 1 9;");
        Due.same("round", 2, x.way(0, 3, 1));
        Due.same("the long way", 3, x.way(0, 1, 0));
        Due.work(x, "slack 1 6;slack 0 6;go 0 1;");
        Due.same("fallen: reach", 0, x.reach(0));
        Due.same("fallen: way", -1, x.way(0, 1, 0));
        Due.same("fallen: way home", -1, x.way(0, 0, 0));
        Due.same("fallen: first", -1, x.way(0, 1, 1));
        WirePost line = Due.of("tower 0;".repeat(8) + "wire 0 1 0;wire 1 2 0;wire 2 3 0;wire 3 4 0;wire 4 5 0;"
                + "wire 5 6 0;wire 6 7 0;walker 0 0 6;walker 7 0 6;");
        Due.same("seven wires", 7, line.way(0, 7, 0));
        Due.same("seven back", 7, line.way(1, 0, 0));
        Due.same("all", 255, line.reach(1));
    }

    private static void oneWayWires() {
        WirePost x = Due.of("tower 0;tower 5;tower 0;wire 0 1 0;wire 1 2 0;wire 0 2 9;walker 0 6 6;walker 1 6 6;"
                + "letter 1 0 0 1;", "most[rise,0] + slack + load*2");
        Due.same("up and down: 5, 0", 2, x.way(0, 2, 0));
        Due.same("with nothing, all", 7, x.reach(0));
        Due.work(x, "take 1 0;");
        Due.same("down with it", 1, x.way(1, 0, 0));
        Due.work(x, "go 1 0;");
        Due.same("not up again with it", -1, x.way(1, 1, 0));
        Due.same("his own alone", 1, x.reach(1));
    }

    private static void send() {
        WirePost x = Due.of(SQUARE + "walker 4 9 6;walker 0 9 3;walker 0 9 2;walker 3 9 6;walker 1 9 6;letter 2 1 3 1;"
                + "letter 5 0 3 1;letter 3 3 2 1;", "slack");
        Due.same("1 + 2 by walker 1, as by walker 3: the first", 1, x.send(0, 0));
        Due.same("wires", 3, x.send(0, 1));
        Due.same("nobody to 5", -1, x.send(1, 0));
        Due.same("nobody to 5, wires", -1, x.send(1, 1));
        Due.same("who stands there", 3, x.send(2, 0));
        Due.same("no wires", 0, x.send(2, 1));
        Due.work(x, "take 3 2;");
        Due.same("carried", -1, x.send(2, 0));
        Due.work(x, "go 1 2;slack 0 8;slack 2 8;");
        Due.same("who stands at 2", 1, x.send(0, 0));
        Due.same("two wires", 2, x.send(0, 1));
        Due.law(x, "slack*2");
        Due.same("nobody", -1, x.send(0, 0));
        Due.law(x, "slack");
        Due.work(x, "take 1 0;give 1 0;go 1 0;go 1 1;");
        Due.same("2 + 2 by walkers 0, 1 and 4: the first", 0, x.send(0, 0));
        Due.same("4 wires", 4, x.send(0, 1));
        Due.work(x, "give 3 2;");
        Due.same("there", -1, x.send(2, 0));
        Due.same("there, wires", -1, x.send(2, 1));
    }

    private static void sendWithIt() {
        WirePost x = Due.of("tower 0;tower 0;tower 0;wire 0 1 1;wire 1 2 1;wire 0 2 4;walker 2 6 6;walker 1 9 6;"
                + "letter 0 2 0 5;letter 0 1 0 9;", "slack + load");
        Due.same("by 1 wire, 2 on with it: 6; the other 1 + 1: 9", 1, x.send(0, 0));
        Due.same("2 wires", 2, x.send(0, 1));
        Due.same("with 9: nobody", -1, x.send(1, 0));
        Due.work(x, "slack 2 5;");
        Due.same("1 + 2 both: the first", 0, x.send(0, 0));
        Due.same("3 wires", 3, x.send(0, 1));
        Due.work(x, "slack 0 2;slack 2 9;");
        Due.same("none by nerve 6, 1 + 2 by nerve 9", 1, x.send(0, 0));
        Due.same("3 wires", 3, x.send(0, 1));
    }

    private static void meet() {
        WirePost x = Due.of(SQUARE + "walker 0 9 6;walker 3 9 6;walker 4 9 6;walker 5 9 6;walker 4 8 6;", "slack");
        Due.same("0 and 3: at 0 by 2", 0, x.meet(0, 1, 0));
        Due.same("0 and 3: 2 wires", 2, x.meet(0, 1, 1));
        Due.same("0 and 4", 0, x.meet(0, 2, 0));
        Due.same("0 and 4: 3 wires", 3, x.meet(2, 0, 1));
        Due.same("the other one goes", 4, x.meet(0, 4, 0));
        Due.same("all the way", 3, x.meet(4, 0, 1));
        Due.same("one alone", 4, x.meet(2, 2, 0));
        Due.same("no wires", 0, x.meet(2, 2, 1));
        Due.same("can't", -1, x.meet(0, 3, 0));
        Due.same("can't, wires", -1, x.meet(0, 3, 1));
        Due.work(x, "again 1[go 4 3;];");
        Due.same("fallen", -1, x.meet(0, 4, 0));
        Due.same("fallen, wires", -1, x.meet(4, 0, 1));
        Due.same("fallen, alone", -1, x.meet(4, 4, 0));
    }

    private static void partsAndBridges() {
        WirePost x = Due.of(SQUARE);
        Due.same("parts", 2, x.parts(0));
        Due.same("the greatest", 5, x.parts(1));
        Due.same("bridges", 16, x.bridges());
        WirePost y = Due.of("tower 0;tower 0;tower 0;tower 0;tower 0;wire 3 4 0;wire 1 2 9;wire 2 3 4;");
        Due.same("parts", 2, y.parts(0));
        Due.same("the greatest", 4, y.parts(1));
        Due.same("bridges", 7, y.bridges());
        WirePost z = Due.of("tower 0;tower 0;tower 0;");
        Due.same("parts", 3, z.parts(0));
        Due.same("the greatest", 1, z.parts(1));
        Due.same("bridges", 0, z.bridges());
    }

    private static void frame() {
        WirePost x = Due.of(SQUARE);
        Due.same("slack", 12, x.frame(0));
        Due.same("of alike ones the least bits", 23, x.frame(1));
        Due.work(x, "slack 0 2;slack 1 2;slack 3 2;slack 4 0;");
        Due.same("slack", 5, x.frame(0));
        Due.same("2 by 1, 4 by 0, 0 and 1 by 2", 23, x.frame(1));
        Due.work(x, "slack 0 0;slack 1 0;slack 2 0;slack 3 0;");
        Due.same("no slack", 0, x.frame(0));
        Due.same("of alike ones the fewest", 23, x.frame(1));
        Due.work(x, "slack 1 3;slack 0 9;");
        Due.same("slack", 3, x.frame(0));
        Due.same("without 0", 30, x.frame(1));
        WirePost y = new WirePost();
        Due.same("of none", 0, y.frame(0) + y.frame(1));
    }

    private static void fits() {
        WirePost x = Due.of("tower 0;tower 7;wire 0 1 2;walker 0 0 1;walker 1 0 6;letter 0 0 0 1;",
                "kind*10 + load - rise*letters");
        Due.same("all", 54, x.fits(0, 0));
        Due.same("the first", 1, x.fits(0, 1));
        Due.book(x, "0 6;");
        Due.same("1 by -6; 1 of kind 1, weight 3 by 6", 2, x.fits(0, 0));
        Due.same("the first: 0 and 1", 1, x.fits(0, 1));
        Due.book(x, "0 52;");
        Due.same("kind 5, weight 9", 59, x.fits(1, 1));
        Due.same("just this", 1, x.fits(1, 0));
        Due.book(x, "0 53;");
        Due.same("none", 0, x.fits(0, 0));
        Due.same("no first", -1, x.fits(0, 1));
        Due.book(x, "0 6;");
        Due.work(x, "take 1 0;take 0 0;");
        Due.same("what he carries is no matter", 2, x.fits(0, 0));
        WirePost y = Due.of("tower 0;tower 7;wire 0 1 2;walker 0 0 6;", "load + fog*9 + hum*20 + resin*3");
        Due.book(y, "0 9;");
        Due.same("six kinds of weight 9", 6, y.fits(0, 0));
        Due.work(y, "fog;");
        Due.same("none in fog", 0, y.fits(0, 0));
        Due.work(y, "fog;resin 0;");
        Due.same("weight 6 with resin", 6, y.fits(0, 1));
        Due.work(y, "go 0 1;");
        Due.book(y, "0 24;");
        Due.same("fallen, by hum, weight 1", 1, y.fits(0, 1));
    }

    private static void look() {
        WirePost x = Due.of("tower 0;tower 7;tower 9;wire 0 1 1;wire 0 2 2;wire 1 2 3;walker 0 0 6;",
                "kind*(slack/2) + load*(slack-1)");
        Due.same("wire 0 tells nothing, 1 kind + load, 2 kind + 2 loads: 3 at the worst", 2, x.look(0, 0));
        Due.same("left", 3, x.look(0, 1));
        Due.book(x, "2 7;");
        Due.same("5 1, 3 2, 1 3 fit", 3, x.fits(0, 0));
        Due.same("wire 1 parts them", 1, x.look(0, 0));
        Due.same("one left", 1, x.look(0, 1));
        Due.book(x, "1 2;2 50;");
        Due.same("no fits: the first in no line", 0, x.look(0, 0));
        Due.same("none left", 0, x.look(0, 1));
        Due.book(x, "0 0;1 7;2 7;");
        Due.same("all in lines", -1, x.look(0, 0));
        Due.same("all in lines, left", -1, x.look(0, 1));
        WirePost alike = Due.of("tower 0;tower 0;tower 0;wire 0 1 1;wire 0 2 2;wire 1 2 3;walker 0 0 6;", "load*99");
        Due.same("of alike ones the first", 0, alike.look(0, 0));
        Due.same("all are left", 54, alike.look(0, 1));
        WirePost y = Due.of("tower 0;walker 0 0 6;");
        Due.same("there are none", -1, y.look(0, 0));
        Due.same("there are none, left", -1, y.look(0, 1));
        WirePost z = Due.of("tower 0;tower 0;wire 0 1 0;walker 0 0 6;", "load - 5");
        Due.same("by size: 4 and 6 as one, 12 left", 12, z.look(0, 1));
    }

    private static void match() {
        WirePost x = Due.of("tower 0;tower 0;tower 0;wire 0 1 1;walker 0 9 6;walker 1 9 2;walker 2 9 6;"
                + "letter 0 1 2 1;letter 0 1 1 1;letter 2 2 0 1;letter 1 0 2 1;", "slack");
        Due.same("three", 3, x.match());
        Due.same("0 to 0, the least", 0, x.matched(0));
        Due.same("1 to none", -1, x.matched(1));
        Due.same("2 to 2", 2, x.matched(2));
        Due.same("3 to 1", 1, x.matched(3));
        Due.work(x, "take 0 1;");
        Due.same("two", 2, x.match());
        Due.same("0 to 1", 1, x.matched(0));
        Due.same("carried", -1, x.matched(1));
        Due.work(x, "go 0 1;give 0 1;");
        Due.same("three again", 3, x.match());
        Due.same("0 to 0", 0, x.matched(0));
        Due.same("3 to 1", 1, x.matched(3));
        Due.law(x, "slack*10");
        Due.same("nobody walks: who stands at a T", 1, x.match());
        Due.same("2 to 2", 2, x.matched(2));
        Due.same("0 to none", -1, x.matched(0));
        WirePost y = Due.of("tower 0;letter 0 0 0 1;");
        Due.same("without walkers", 0, y.match());
        Due.same("to none", -1, y.matched(0));
        Due.noSuch("no letter", () -> y.matched(1));
        Due.noSuch("no letter", () -> y.matched(-1));
    }

    private static void matchFirst() {
        WirePost x = Due.of("tower 0;" + "walker 0 0 6;".repeat(6) + "letter 0 0 0 1;".repeat(8));
        Due.same("six of eight", 6, x.match());
        for (int k = 0; k < 8; k++) {
            Due.same("letter " + k, k < 6 ? k : -1, x.matched(k));
        }
        WirePost y = Due.of("tower 0;walker 0 0 3;walker 0 0 6;walker 0 0 6;letter 0 0 0 1;letter 0 0 3 1;"
                + "letter 0 0 1 1;letter 0 0 1 1;");
        Due.same("three", 3, y.match());
        Due.same("letter 0", 1, y.matched(0));
        Due.same("letter 1", 0, y.matched(1));
        Due.same("letter 2", 2, y.matched(2));
        Due.same("letter 3", -1, y.matched(3));
        WirePost alone = Due.of("tower 0;walker 0 0 1;walker 0 0 0;letter 0 0 0 1;letter 0 0 1 1;");
        Due.same("asked without match()", 1, alone.matched(0));
        Due.work(alone, "take 1 0;");
        Due.same("and as it is now", -1, alone.matched(0));
        WirePost z = Due.of("tower 0;walker 0 0 6;walker 0 0 0;letter 0 0 0 1;letter 0 0 1 1;");
        Due.same("two", 2, z.match());
        Due.same("letter 0 to 1, that letter 1 has one", 1, z.matched(0));
        Due.same("letter 1", 0, z.matched(1));
    }

    private static void chance(WirePost x, int tower, int q, long above, long below) {
        Due.same("likely above, " + tower + ", " + q, above, x.likely(0, tower, q, 0));
        Due.same("likely below, " + tower + ", " + q, below, x.likely(0, tower, q, 1));
    }

    private static void likely() {
        WirePost x = Due.of(SQUARE + "walker 0 9 6;", "slack + fog*slack*fog");
        chance(x, 0, 16, 1, 1);
        chance(x, 3, 16, 1, 1);
        chance(x, 4, 0, 1, 1);
        chance(x, 4, 16, 0, 1);
        chance(x, 4, 15, 1, 16);
        chance(x, 4, 6, 5, 8);
        chance(x, 5, 6, 0, 1);
        Due.work(x, "slack 0 5;slack 1 6;slack 2 6;slack 3 7;");
        chance(x, 4, 1, 3375, 4096);
        chance(x, 4, 8, 1, 8);
        Due.work(x, "slack 3 4;");
        chance(x, 4, 1, 225, 256);
        Due.law(x, "9 + (1 - fog)");
        Due.same("in no fog he can't", -1, x.way(0, 1, 0));
        chance(x, 1, 16, 0, 1);
        Due.work(x, "fog;");
        chance(x, 1, 16, 1, 1);
        chance(x, 1, 3, 3, 16);
        chance(x, 4, 6, 27, 512);
        Due.law(x, "10");
        chance(x, 1, 3, 0, 1);
        chance(x, 0, 3, 1, 1);
        Due.work(x, "go 0 1;");
        chance(x, 0, 3, 0, 1);
        WirePost line = Due.of("tower 0;".repeat(8) + "wire 0 1 0;wire 1 2 0;wire 2 3 0;wire 3 4 0;wire 4 5 0;"
                + "wire 5 6 0;wire 6 7 0;walker 0 0 6;", "fog");
        chance(line, 7, 3, 62748517, 268435456);
        chance(line, 7, 14, 1, 2097152);
        WirePost steep = Due.of("tower 0;tower 9;tower 1;wire 1 0 0;wire 1 2 0;walker 0 9 6;", "most[rise,0]+fog*rise");
        chance(steep, 1, 5, 11, 16);
        chance(steep, 2, 5, 11, 16);
    }

    private static void rests(int v, int a, int b, int many, int first, int together) {
        WirePost x = new WirePost();
        String call = "middle " + v + " " + a + " " + b;
        Due.same(call + " rests", many, x.middle(v, a, b, 0));
        Due.same(call + " first", first, x.middle(v, a, b, 1));
        Due.same(call + " together", together, x.middle(v, a, b, 2));
    }

    private static void middle() {
        rests(0, 0, 0, 4, 0, 0);
        rests(5, 9, 2, 2, 1, 3);
        rests(5, 2, 9, 1, 11, -4);
        rests(5, 3, 3, 3, 1, 2);
        rests(0, 5, 3, 3, 0, 0);
        rests(0, 3, 5, 2, 0, 0);
        rests(99, 99, 99, 3, 1, 0);
        rests(1, 99, 98, 2, 1, -97);
        rests(1, 98, 99, 1, 11, -196);
    }

    private static void share() {
        WirePost x = Due.of("tower 0;letter 0 0 0 3;letter 0 0 0 2;letter 0 0 0 9;letter 0 0 0 3;letter 0 0 0 1;");
        int[] all = {2, 1, 5, 2, 0};
        for (int k = 0; k < 5; k++) {
            int letter = k;
            Due.is("10 among 18, letter " + k, all[k], () -> x.share(letter, 31, 10));
        }
        Due.same("alone", 999, x.share(4, 16, 999));
        Due.same("none of them", 0, x.share(0, 30, 999));
        Due.same("of 0", 0, x.share(0, 31, 0));
        Due.same("1 of 6: the first", 1, x.share(0, 9, 1));
        Due.same("1 of 6: not the other", 0, x.share(3, 9, 1));
        Due.same("among none", 0, x.share(0, 0, 10));
        Due.illegal("bits of no letters", () -> x.share(0, 32, 10));
        Due.illegal("bits of no letters, too", () -> x.share(0, 33, 10));
        Due.illegal("bits below 0", () -> x.share(0, -1, 10));
        Due.illegal("n 1000", () -> x.share(0, 1, 1000));
        Due.illegal("n -1", () -> x.share(0, 1, -1));
        Due.noSuch("letter 5", () -> x.share(5, 32, 1000));
        for (int n = 0; n < 1000; n += 37) {
            int sum = 0;
            for (int k = 0; k < 5; k++) {
                sum += x.share(k, 22, n);
            }
            Due.same("shares of " + n, n, sum);
        }
    }

    /** The document's DRAW, once more. */
    private static final class Draw {
        private int seed;

        Draw(int seed) {
            this.seed = seed;
        }

        int by(int n) {
            seed = seed * 1103515245 + 12345;
            return (seed >>> 16) % 32768 % n;
        }
    }

    private static void season() {
        String city = "tower 0;tower 0;wire 0 1 0;walker 0 0 6;letter 0 1 0 1;";
        for (int seed = -3; seed < 4; seed++) {
            WirePost y = Due.of(city, "0");
            for (int walks = 1; walks <= 20; walks++) {
                Draw draw = new Draw(seed);
                int at = 0;
                int done = 0;
                boolean taken = false;
                boolean there = false;
                for (int k = 0; k < walks; k++) {
                    draw.by(1);
                    int to = draw.by(2);
                    done += to == at ? 0 : 1;
                    at = to;
                    there |= taken && at == 1;
                    taken |= at == 0;
                    draw.by(16);
                }
                String call = "season " + seed + ", " + walks;
                Due.same(call + " there", there ? 1 : 0, y.season(seed, 0, walks, 0));
                Due.same(call + " falls", 0, y.season(seed, 0, walks, 1));
                Due.same(call + " walks", done, y.season(seed, 0, walks, 2));
                Due.same(call + " days", walks / 8, y.season(seed, 0, walks, 3));
            }
        }
        WirePost x = Due.of(city, "0");
        x.season(3, 16, 96, 0);
        Due.same("nothing stays", 0, x.told(6) + x.told(10) + x.letter(0, 4));
        Due.law(x, "99*fog*day");
        Due.work(x, "night;");
        Due.same("falls in fog", x.season(5, 16, 96, 1) > 0 ? 1 : 0, 1);
        Due.same("none without", 0, x.season(5, 0, 96, 1));
        Due.same("nothing stays", 0, x.told(7) + x.walker(0, 5) + x.told(5));
        Due.same("without walkers", 0, Due.of("tower 0;letter 0 0 0 1;").season(5, 16, 96, 3));
    }

    /** A fall with two letters on the first walk that can be done; up again by night. */
    private static void seasonOfFalls() {
        WirePost x = Due.of("tower 0;tower 0;wire 0 1 0;walker 0 0 6;walker 0 0 6;letter 0 0 0 1;", "1");
        for (int seed = 0; seed < 9; seed++) {
            Draw draw = new Draw(seed);
            boolean[] fallen = new boolean[2];
            int falls = 0;
            for (int k = 1; k <= 30; k++) {
                int walker = draw.by(2);
                if (draw.by(2) == 1 && !fallen[walker]) {
                    falls++;
                    fallen[walker] = true;
                }
                draw.by(16);
                if (k % 8 == 0) {
                    fallen = new boolean[2];
                }
            }
            Due.same("falls by " + seed, falls, x.season(seed, 0, 30, 1));
            Due.same("walks by " + seed, falls, x.season(seed, 0, 30, 2));
        }
        Due.work(x, "go 0 1;go 1 1;");
        Due.same("who has fallen falls not again", 0, x.season(4, 0, 8, 1));
        Due.same("falls so far stay", 1, x.walker(0, 5));
    }

    /** One tower alone: he takes two by number, and gives them, who stands at their T, in the next walk. */
    private static void seasonOfTwoLetters() {
        WirePost x = Due.of("tower 0;walker 0 0 1;letter 0 0 1 1;letter 0 0 2 1;letter 0 0 1 1;letter 0 0 1 1;"
                + "letter 0 0 1 1;letter 0 0 1 1;");
        int[] there = {0, 1 + 4, 1 + 4 + 8 + 16, 1 + 4 + 8 + 16 + 32, 1 + 4 + 8 + 16 + 32};
        for (int walks = 1; walks <= 5; walks++) {
            Due.same("there behind " + walks, there[walks - 1], x.season(walks, 3, walks, 0));
        }
        Due.same("no walks", 0, x.season(1, 3, 96, 2));
        Due.same("twelve nights", 12, x.season(1, 3, 96, 3));
        WirePost y = Due.of("tower 0;walker 0 0 1;", "day");
        for (int k = 0; k < 4; k++) {
            Due.work(y, "again 6[again 30[night;];];");
        }
        Due.same("day 700", 700, y.told(4));
        Due.same("nights beyond it, too", 12, y.season(1, 3, 96, 3));
        Due.same("day 700 still", 700, y.told(4));
    }

    private static void span() {
        WirePost x = Due.of("tower 0;tower 3;tower 9;tower 1;wire 0 1 1;wire 1 2 2;wire 2 3 3;wire 3 0 4;wire 0 2 5;"
                + "walker 0 11 6;walker 2 14 1;letter 0 2 1 3;letter 1 3 5 2;letter 3 1 1 4;letter 2 0 0 1;",
                "slack*2 + load + fog*4 - resin + hum");
        for (int seed : new int[] {0, 7, Integer.MAX_VALUE - 2, -5}) {
            int fewest = 99;
            int most = 0;
            int unfallen = 0;
            for (int many = 1; many <= 20; many++) {
                int there = Integer.bitCount(x.season(seed + many - 1, 5, 17, 0));
                fewest = Math.min(fewest, there);
                most = Math.max(most, there);
                unfallen += x.season(seed + many - 1, 5, 17, 1) == 0 ? 1 : 0;
                if (many == 1 || many == 7 || many == 20) {
                    Due.same("span fewest", fewest, x.span(seed, many, 5, 17, 0));
                    Due.same("span most", most, x.span(seed, many, 5, 17, 1));
                    Due.same("span unfallen", unfallen, x.span(seed, many, 5, 17, 2));
                }
            }
        }
        Due.same("without walkers nobody falls", 20, new WirePost().span(1, 20, 0, 1, 2));
    }

    private static void wrongArguments() {
        WirePost x = Due.of(SQUARE + "walker 0 9 6;letter 0 0 0 1;");
        for (int no : new int[] {-1, 1, 6, Integer.MIN_VALUE, Integer.MAX_VALUE}) {
            Due.noSuch("lean " + no, () -> x.lean(no, 0, 9));
            Due.noSuch("lean, wire " + no, () -> x.lean(0, no == 1 ? 5 : no, 9));
            Due.noSuch("over " + no, () -> x.over(no, 0, 9) ? 1 : 0);
            Due.noSuch("over, wire " + no, () -> x.over(0, no == 1 ? 5 : no, 9) ? 1 : 0);
            Due.noSuch("reach " + no, () -> x.reach(no));
            Due.noSuch("way " + no, () -> x.way(no, 0, 9));
            Due.noSuch("way, tower " + no, () -> x.way(0, no == 1 ? 6 : no, 9));
            Due.noSuch("send " + no, () -> x.send(no, 9));
            Due.noSuch("meet " + no, () -> x.meet(no, 0, 9));
            Due.noSuch("meet, other " + no, () -> x.meet(0, no, 9));
            Due.noSuch("fits " + no, () -> x.fits(no, 9));
            Due.noSuch("look " + no, () -> x.look(no, 9));
            Due.noSuch("matched " + no, () -> x.matched(no));
            Due.noSuch("likely " + no, () -> x.likely(no, 0, 17, 9));
            Due.noSuch("likely, tower " + no, () -> x.likely(0, no == 1 ? 6 : no, 17, 9));
            Due.noSuch("share " + no, () -> x.share(no, -1, -1));
        }
        Due.same("status 0", 80, x.status(0));
        for (int no : new int[] {-1, 2, Integer.MIN_VALUE, Integer.MAX_VALUE}) {
            Due.illegal("lean how " + no, () -> x.lean(0, 0, no));
            Due.illegal("over how " + no, () -> x.over(0, 0, no) ? 1 : 0);
            Due.illegal("way what " + no, () -> x.way(0, 0, no));
            Due.illegal("send what " + no, () -> x.send(0, no));
            Due.illegal("meet what " + no, () -> x.meet(0, 0, no));
            Due.illegal("parts what " + no, () -> x.parts(no));
            Due.illegal("frame what " + no, () -> x.frame(no));
            Due.illegal("fits what " + no, () -> x.fits(0, no));
            Due.illegal("look what " + no, () -> x.look(0, no));
            Due.illegal("likely part " + no, () -> x.likely(0, 0, 0, no));
            Due.illegal("likely q " + no, () -> x.likely(0, 0, no == 2 ? 17 : no, 0));
            Due.illegal("middle v " + no, () -> x.middle(no == 2 ? 100 : no, 0, 0, 0));
            Due.illegal("middle a " + no, () -> x.middle(0, no == 2 ? 100 : no, 0, 0));
            Due.illegal("middle b " + no, () -> x.middle(0, 0, no == 2 ? 100 : no, 0));
            Due.illegal("middle what " + no, () -> x.middle(0, 0, 0, no == 2 ? 3 : no));
            Due.illegal("loudest what " + no, () -> x.loudest(no));
            Due.illegal("season q " + no, () -> x.season(0, no == 2 ? 17 : no, 1, 0));
            Due.illegal("season walks " + no, () -> x.season(0, 0, no == 2 ? 97 : no, 0));
            Due.illegal("season what " + no, () -> x.season(0, 0, 1, no == 2 ? 4 : no));
            Due.illegal("span many " + no, () -> x.span(0, no == 2 ? 21 : no, 0, 1, 0));
            Due.illegal("span q " + no, () -> x.span(0, 1, no == 2 ? 17 : no, 1, 0));
            Due.illegal("span walks " + no, () -> x.span(0, 1, 0, no == 2 ? 97 : no, 0));
            Due.illegal("span what " + no, () -> x.span(0, 1, 0, 1, no == 2 ? 3 : no));
        }
        Due.illegal("season of 0 walks", () -> x.season(0, 0, 0, 0));
        Due.illegal("span of 0 seeds", () -> x.span(0, 0, 0, 1, 0));
        Due.same("status 1", 94, x.status(1));
    }
}
