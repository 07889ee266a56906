/** Promises 5 and 8 to 14, 32, 35 to 38: what WORK does, what is told of it, undone, kept and refused. */
public final class StateTest {
    private static final String CITY = "tower 0;tower 4;tower 9;tower 2;wire 0 1 1;wire 1 2 3;wire 2 3 0;wire 3 0 4;"
            + "walker 0 8 6;walker 2 12 1;walker 1 40 5;letter 0 2 1 3;letter 1 3 5 2;letter 3 3 0 9;letter 0 1 1 1;"
            + "letter 0 1 2 1;";

    public static void main(String[] args) {
        asTold();
        elements();
        takeAndGive();
        walks();
        fullCity();
        falls();
        slackResinFog();
        nights();
        lastDay();
        loops();
        manySteps();
        refusedSteps();
        undone();
        sixteenWorks();
        images();
        statusAndCount();
        Due.end();
    }

    private static void asTold() {
        WirePost x = Due.of(CITY);
        int[] told = {4, 4, 3, 5, 0, 0, 0, 0, 0, 0, 0};
        for (int what = 0; what < told.length; what++) {
            Due.same("told " + what, told[what], x.told(what));
        }
        Due.illegal("told -1", () -> x.told(-1));
        Due.illegal("told 11", () -> x.told(11));
        Due.same("height", 9, x.tower(2, 0));
        Due.same("wires from 0", 9, x.tower(0, 1));
        Due.same("wires from 2", 6, x.tower(2, 1));
        Due.same("walkers at 2", 2, x.tower(2, 2));
        Due.same("walkers at 3", 0, x.tower(3, 2));
        Due.same("letters at 0", 25, x.tower(0, 3));
        Due.same("a letter at its T lies", 4, x.tower(3, 3));
        Due.same("and is not there", 0, x.letter(2, 6));
        int[] wire = {3, 0, 4, 0};
        for (int what = 0; what < wire.length; what++) {
            Due.same("wire 3, " + what, wire[what], x.wire(3, what));
        }
        int[] walker = {2, 12, 1, 0, 0, 0, 2};
        for (int what = 0; what < walker.length; what++) {
            Due.same("walker 1, " + what, walker[what], x.walker(1, what));
        }
        int[] letter = {1, 3, 5, 2, 1, -1, 0};
        for (int what = 0; what < letter.length; what++) {
            Due.same("letter 1, " + what, letter[what], x.letter(1, what));
        }
        Due.same("between", 3, x.between(0, 3));
        Due.same("between, back", 3, x.between(3, 0));
        Due.same("between none", -1, x.between(0, 2));
        Due.same("between one alone", -1, x.between(1, 1));
    }

    private static void elements() {
        WirePost x = Due.of(CITY);
        for (int no : new int[] {-1, 5, Integer.MIN_VALUE, Integer.MAX_VALUE}) {
            Due.noSuch("tower " + no, () -> x.tower(no, 9));
            Due.noSuch("wire " + no, () -> x.wire(no, 9));
            Due.noSuch("walker " + no, () -> x.walker(no, 9));
            Due.noSuch("letter " + no, () -> x.letter(no, 9));
            Due.noSuch("between " + no, () -> x.between(no, 0));
            Due.noSuch("between 0 " + no, () -> x.between(0, no));
        }
        Due.noSuch("tower 4", () -> x.tower(4, 0));
        Due.noSuch("wire 4", () -> x.wire(4, 0));
        Due.noSuch("walker 3", () -> x.walker(3, 0));
        for (int no : new int[] {-1, 7, 99}) {
            Due.illegal("tower what " + no, () -> x.tower(0, no));
            Due.illegal("wire what " + no, () -> x.wire(0, no));
            Due.illegal("walker what " + no, () -> x.walker(0, no));
            Due.illegal("letter what " + no, () -> x.letter(0, no));
        }
        Due.illegal("tower what 4", () -> x.tower(0, 4));
        Due.illegal("wire what 4", () -> x.wire(0, 4));
        Due.same("status 0", 27, x.status(0));
        Due.same("status 1", 14, x.status(1));
    }

    private static void takeAndGive() {
        WirePost x = Due.of(CITY);
        Due.same("two at most", 2, Due.work(x, "take 0 0;take 0 3;take 0 4;"));
        Due.same("refused", 1, x.told(9));
        Due.same("he carries", 9, x.walker(0, 3));
        Due.same("carried lies nowhere", -1, x.letter(3, 4));
        Due.same("who carries", 0, x.letter(3, 5));
        Due.same("what lies", 16, x.tower(0, 3));
        Due.same("not where he is", 0, Due.work(x, "take 0 1;take 0 2;"));
        Due.same("carried by one", 0, Due.work(x, "take 0 0;give 1 0;give 0 4;"));
        Due.same("refused 3", 3, x.told(9));
        Due.same("given at another tower", 1, Due.work(x, "give 0 0;"));
        Due.same("lies there", 0, x.letter(0, 4));
        Due.same("not there", 0, x.told(6));
        Due.same("over and given", 2, Due.work(x, "go 0 1;give 0 3;"));
        Due.same("there", 8, x.told(6));
        Due.same("there 1", 1, x.letter(3, 6));
        Due.same("at its T", 1, x.letter(3, 4));
        Due.same("who", -1, x.letter(3, 5));
        Due.same("lies no more", 2, x.tower(1, 3));
        Due.same("is not taken again", 0, Due.work(x, "take 0 3;"));
        Due.same("kinds", 1, Due.work(x, "go 1 1;take 1 1;"));
        Due.same("kind 5 alone", 1, Due.work(x, "take 2 1;"));
        Due.same("taken at its T, and given", 4, Due.work(x, "go 0 0;go 0 3;take 0 2;give 0 2;"));
        Due.same("both there", 12, x.told(6));
    }

    private static void walks() {
        WirePost x = Due.of(CITY, "hum*4+rise");
        Due.same("along", 1, Due.work(x, "go 0 1;"));
        Due.same("at", 1, x.walker(0, 0));
        Due.same("hum", 1, x.wire(0, 3));
        Due.same("back, 4 - 4", 1, Due.work(x, "go 0 0;"));
        Due.same("hum 2", 2, x.wire(0, 3));
        Due.same("no wire", 0, Due.work(x, "go 0 2;go 0 0;"));
        Due.same("refused", 2, x.told(9));
        Due.same("walks", 2, x.told(10));
        Due.same("8 + 4 is too much", 1, Due.work(x, "go 0 1;go 0 1;"));
        Due.same("fallen", 1, x.told(7));
        Due.same("walked in any case", 3, x.wire(0, 3));
        Due.same("loudest", 0, x.loudest(0));
        Due.same("how often", 3, x.loudest(1));
        Due.work(x, "go 1 3;go 1 2;go 1 3;go 2 2;");
        Due.same("of alike ones the first", 0, x.loudest(0));
        Due.work(x, "go 1 2;");
        Due.same("loudest now", 2, x.loudest(0));
        Due.same("how often now", 4, x.loudest(1));
        Due.same("walks now", 8, x.told(10));
        Due.illegal("loudest 2", () -> x.loudest(2));
        Due.illegal("loudest -1", () -> x.loudest(-1));
        Due.work(x, "night;");
        Due.same("none was walked", -1, x.loudest(0));
        Due.same("none was walked, how often", -1, x.loudest(1));
    }

    /** All rows as long as they can be. */
    private static void fullCity() {
        WirePost x = Due.of("tower 0;".repeat(8) + "wire 0 1 0;wire 0 2 0;wire 0 3 0;wire 0 4 0;wire 0 5 0;wire 0 6 0;"
                + "wire 0 7 0;wire 1 2 0;wire 1 3 0;wire 1 4 0;wire 1 5 0;wire 1 6 1;" + "walker 5 40 6;".repeat(5)
                + "walker 6 0 6;" + "letter 6 6 0 1;".repeat(7) + "letter 6 1 0 9;");
        Due.same("wires", 12, x.told(1));
        Due.same("walks", 0, x.told(10));
        Due.same("none", -1, x.loudest(0));
        Due.same("two steps", 2, Due.work(x, "take 5 7;go 5 1;"));
        Due.same("the last wire", 11, x.loudest(0));
        Due.same("one walk", 1, x.told(10));
        Due.same("the last walker fell", 32, x.told(7));
        Due.same("the last letter lies", 255, x.tower(6, 3));
        Due.same("the others stand", 31, x.tower(5, 2));
        Due.same("a night", 1, Due.work(x, "night;"));
        Due.same("he stands", 6, x.walker(5, 0));
        Due.same("no walk", 0, x.told(10));
        Due.same("five and the last one", 6, x.match());
        Due.same("the last wire is no bridge, that to 7 is", 64, x.bridges());
    }

    private static void falls() {
        WirePost x = Due.of("tower 0;tower 0;wire 0 1 4;walker 1 8 6;letter 1 1 0 1;letter 1 0 5 9;letter 0 1 0 1;");
        Due.same("a lean as great as the nerve holds", 1, Due.work(x, "go 0 0;"));
        Due.same("at 0", 0, x.walker(0, 0));
        Due.same("back with nothing", 1, Due.work(x, "go 0 1;"));
        Due.same("falls with two", 3, Due.work(x, "take 0 0;take 0 1;go 0 0;"));
        Due.same("fallen", -1, x.walker(0, 0));
        Due.same("no walker at 1", 0, x.tower(1, 2));
        Due.same("falls", 1, x.walker(0, 5));
        Due.same("carries nothing", 0, x.walker(0, 3));
        Due.same("what he carried is there, if that is its T", 1, x.told(6));
        Due.same("lies where he went from", 1, x.letter(1, 4));
        Due.same("not there", 0, x.letter(1, 6));
        Due.same("a fallen one does nothing", 0, Due.work(x, "take 0 1;give 0 1;go 0 0;resin 0;"));
        Due.same("all refused", 4, x.told(9));
        Due.same("no walk by that", 3, x.told(10));
        Due.same("the told tower", 1, x.walker(0, 6));
        Due.same("a night", 1, Due.work(x, "night;"));
        Due.same("he stands where he was told", 1, x.walker(0, 0));
        Due.same("falls stay", 1, x.walker(0, 5));
        Due.work(x, "take 0 1;go 0 0;");
        Due.same("falls again", 2, x.walker(0, 5));
        WirePost z = Due.of("tower 0;tower 0;wire 0 1 0;walker 0 9 6;walker 1 2 6;walker 0 3 6;", "3");
        Due.work(z, "go 1 0;night;go 1 0;go 0 1;go 2 1;");
        Due.same("falls of 1", 2, z.walker(1, 5));
        Due.same("of the others", 0, z.walker(0, 5) + z.walker(2, 5));
        Due.work(z, "resin 2;resin 0;night;");
        Due.same("no resin of all", 0, z.walker(0, 4) + z.walker(1, 4) + z.walker(2, 4));
        Due.same("1 at home", 1, z.walker(1, 0));
        Due.same("2 stays", 1, z.walker(2, 0));
        WirePost y = Due.of("tower 9;tower 0;wire 0 1 0;walker 0 8 6;", "rise");
        Due.work(y, "go 0 1;");
        Due.same("by size: -9 is more than 8", -1, y.walker(0, 0));
    }

    private static void slackResinFog() {
        WirePost x = Due.of(CITY);
        Due.same("slack", 2, Due.work(x, "slack 0 9;slack 0 9;slack 1 0;slack 1 0;slack 2 0;"));
        Due.same("refused", 3, x.told(9));
        Due.same("slack now", 9, x.wire(0, 2));
        Due.same("slack 1 now", 0, x.wire(1, 2));
        Due.same("nine resins", 9, Due.work(x, "again 11[resin 2;];"));
        Due.same("two refused", 2, x.told(9));
        Due.same("resin", 9, x.walker(2, 4));
        Due.same("of the others", 0, x.walker(1, 4));
        Due.same("fog", 1, Due.work(x, "fog;"));
        Due.same("there is fog", 1, x.told(5));
        Due.same("fog again", 1, Due.work(x, "fog;"));
        Due.same("none any more", 0, x.told(5));
    }

    private static void nights() {
        WirePost x = Due.of(CITY);
        Due.work(x, "resin 0;fog;slack 0 2;take 0 0;go 0 1;go 1 3;go 0 2;resin 0;");
        Due.same("fallen", 1, x.told(7));
        Due.same("a fallen one keeps his resin", 1, x.walker(0, 4));
        Due.work(x, "night;");
        Due.same("day", 1, x.told(4));
        Due.same("no fog", 0, x.told(5));
        Due.same("no walks", 0, x.told(10));
        Due.same("no hum", 0, x.wire(0, 3));
        Due.same("no resin", 0, x.walker(0, 4));
        Due.same("up again", 0, x.walker(0, 0));
        Due.same("others stay", 3, x.walker(1, 0));
        Due.same("slack stays", 2, x.wire(0, 2));
        Due.same("letters stay", 1, x.letter(0, 4));
        Due.work(x, "go 2 2;take 1 2;go 1 2;");
        WirePost y = Due.of(CITY);
        Due.work(y, "take 0 3;go 0 1;night;");
        Due.same("who has not fallen stays", 1, y.walker(0, 0));
        Due.same("and carries on", 8, y.walker(0, 3));
    }

    private static void lastDay() {
        WirePost x = Due.of(CITY, "day");
        for (int k = 0; k < 3; k++) {
            Due.same("200 steps at most", 189, Due.work(x, "again 5[again 30[night;];again 9[night;];];"));
        }
        Due.same("days", 567, x.told(4));
        Due.same("more days", 133, Due.work(x, "again 5[again 27[night;];];"));
        Due.same("refused on day 700", 2, x.told(9));
        Due.same("day 700", 700, x.told(4));
        Due.same("fog and a refused night", 1, Due.work(x, "fog;night;"));
        Due.same("changes nothing", 1, x.told(5));
        Due.same("by the law, at most", 99, x.lean(0, 0, 0));
    }

    private static void loops() {
        WirePost x = Due.of(CITY);
        Due.same("agains are not counted", 6, Due.work(x, "again 2[night;again 2[night;];];"));
        Due.same("days", 6, x.told(4));
        Due.same("none of 0 times", 1, Due.work(x, "again 0[night;night;];night;"));
        Due.same("days", 7, x.told(4));
        Due.same("loops one behind the other", 5, Due.work(x, "again 2[night;];again 3[night;];"));
        Due.same("days", 12, x.told(4));
    }

    private static void manySteps() {
        WirePost x = Due.of(CITY);
        Due.same("nine agains, 191 fogs", 191, Due.work(x, "again 1[again 30[again 30[fog;];];];"));
        Due.same("191 of them is fog", 1, x.told(5));
        Due.same("what comes behind is left out", 192, Due.work(x, "again 30[again 30[fog;];];night;"));
        Due.same("no night", 0, x.told(4));
        Due.same("refused ones count, too", 0, Due.work(x, "again 30[again 30[go 0 0;];];night;"));
        Due.same("192 refused", 192, x.told(9));
        Due.same("empty agains count each time they are come to", 15, Due.work(x, "again 30[again 0[];again 9[];];"
                + "again 30[again 0[];again 9[];];again 30[again 1[];again 1[];];again 1[];again 19[night;];night;"));
        Due.same("200 in all", 15, x.told(4));
        Due.same("the 200th is done", 192, Due.work(x, "again 6[again 30[fog;];];again 11[fog;];night;"));
        Due.same("a night", 16, x.told(4));
        Due.same("the 201st is not", 192, Due.work(x, "again 6[again 30[fog;];];again 12[fog;];night;"));
        Due.same("no night", 16, x.told(4));
    }

    private static void refusedSteps() {
        WirePost x = Due.of(CITY);
        Due.work(x, "go 0 0;go 0 0;night;");
        Due.same("refused", 2, x.told(9));
        Due.work(x, "go 0 0;x");
        Due.same("a work with a fault is none", 2, x.told(9));
        Due.same("restore of none", -1, x.restore());
        Due.same("refused by the latest work", 2, x.told(9));
        Due.work(x, "night;");
        Due.same("none refused", 0, x.told(9));
        Due.work(x, "go 0 0;");
        x.undo();
        Due.same("0 behind undo", 0, x.told(9));
        x.image();
        Due.work(x, "go 0 0;");
        Due.same("an image changes nothing", 1, x.told(9));
        x.restore();
        Due.same("0 behind restore", 0, x.told(9));
    }

    private static void undone() {
        WirePost x = Due.of(CITY);
        Due.same("nothing to undo", -1, x.undo());
        Due.work(x, "take 0 0;resin 0;slack 0 9;fog;go 0 1;");
        Due.work(x, "night;go 1 3;");
        Due.law(x, "hum");
        Due.book(x, "0 1;");
        Due.same("one left", 1, x.undo());
        Due.same("day", 0, x.told(4));
        Due.same("fog is back", 1, x.told(5));
        Due.same("fallen is back", 1, x.told(7));
        Due.same("hum is back", 1, x.wire(0, 3));
        Due.same("resin is back", 1, x.walker(0, 4));
        Due.same("the law stays", 3, x.would(9, 0, 0, 0, 0, 3, 0, 0, 0));
        Due.same("the book stays", 1, x.told(8));
        Due.same("none left", 0, x.undo());
        Due.same("slack is back", 1, x.wire(0, 2));
        Due.same("fallen none", 0, x.told(7));
        Due.same("falls are back", 0, x.walker(0, 5));
        Due.same("letter is back", 0, x.letter(0, 4));
        Due.same("none", -1, x.undo());
    }

    private static void sixteenWorks() {
        WirePost x = Due.of(CITY);
        for (int k = 1; k <= 16; k++) {
            Due.same("work " + k, 1, Due.work(x, "night;"));
        }
        Due.same("16 works", 16, x.count(2));
        Due.same("a work too many, its fault unread", -20, Due.work(x, "x"));
        Due.same("there is no fault", -1, x.fault());
        Due.same("the tape is empty", 0, x.count(1));
        Due.same("nothing done", -20, Due.work(x, "night;"));
        Due.same("day 16", 16, x.told(4));
        Due.illegal("an argument ahead of it", () -> x.work(1));
        Due.same("undo", 15, x.undo());
        Due.same("day 15", 15, x.told(4));
        Due.same("a work again", 1, Due.work(x, "fog;"));
        Due.city(x, "tower");
        Due.same("a fault is told", 5, x.fault());
        Due.same("too many", -20, Due.work(x, "fog;"));
        Due.same("none now", -1, x.fault());
        for (int k = 15; k >= 0; k--) {
            Due.same("undo to " + k, k, x.undo());
            Due.same("day " + k, k, x.told(4));
        }
        Due.same("none", -1, x.undo());
    }

    private static void images() {
        WirePost x = Due.of(CITY);
        Due.same("restore of none", -1, x.restore());
        Due.work(x, "night;take 0 0;");
        Due.work(x, "night;slack 0 9;");
        Due.same("image 1", 1, x.image());
        Due.work(x, "night;give 0 0;resin 0;fog;");
        Due.same("image 2", 2, x.image());
        Due.same("undo", 2, x.undo());
        Due.same("undo", 1, x.undo());
        Due.same("undo", 0, x.undo());
        Due.same("image 3", 3, x.image());
        Due.same("no fourth", -1, x.image());
        Due.same("three", 3, x.count(0));
        Due.work(x, "again 9[night;];");
        Due.law(x, "7");
        Due.book(x, "0 7;");
        Due.same("restore 3", 2, x.restore());
        Due.same("day 0", 0, x.told(4));
        Due.same("no works", 0, x.count(2));
        Due.same("restore 2", 1, x.restore());
        Due.same("day 3", 3, x.told(4));
        Due.same("fog", 1, x.told(5));
        Due.same("resin", 1, x.walker(0, 4));
        Due.same("works", 3, x.count(2));
        Due.same("undo as then", 2, x.undo());
        Due.same("day 2", 2, x.told(4));
        Due.same("carried then", 0, x.letter(0, 5));
        Due.same("restore 1", 0, x.restore());
        Due.same("works 2", 2, x.count(2));
        Due.same("slack", 9, x.wire(0, 2));
        Due.same("undo", 1, x.undo());
        Due.same("slack then", 1, x.wire(0, 2));
        Due.same("undo", 0, x.undo());
        Due.same("taken then", 0, x.letter(0, 4));
        Due.same("none", -1, x.restore());
        Due.same("the law stays", 7, x.lean(0, 0, 0));
        Due.same("the book stays", 1, x.told(8));
        Due.work(x, "again 4[night;];");
        Due.work(x, "night;fog;");
        x.image();
        x.undo();
        x.undo();
        Due.work(x, "slack 0 7;");
        Due.work(x, "slack 0 6;");
        x.restore();
        Due.same("the work in the image undone", 1, x.undo());
        Due.same("day 4", 4, x.told(4));
        Due.same("and the one ahead of it", 0, x.undo());
        Due.same("day 0", 0, x.told(4));
        Due.same("slack as told", 1, x.wire(0, 2));
        Due.same("a text on the tape", 20, x.feed(1, 2, 3, 4, 5));
        x.image();
        x.feed(1, 2, 3, 4, 5);
        Due.noSuch("refused", () -> x.reach(-1));
        x.restore();
        Due.same("no image keeps the tape", 40, x.count(1));
        Due.same("nor the status", 1, x.status(0));
    }

    private static void statusAndCount() {
        WirePost x = Due.of(CITY);
        Due.noSuch("reach", () -> x.reach(3));
        Due.noSuch("way", () -> x.way(3, 9, 9));
        Due.illegal("way", () -> x.way(0, 0, 2));
        Due.illegal("city", () -> x.city(1));
        Due.illegal("parts", () -> x.parts(5));
        Due.same("status 0", 2, x.status(0));
        Due.same("status 1", 3, x.status(1));
        for (int no : new int[] {-1, 2, 3, Integer.MAX_VALUE, Integer.MIN_VALUE}) {
            Due.same("status " + no, -1, x.status(no));
        }
        for (int no : new int[] {-1, 3, 4, Integer.MAX_VALUE, Integer.MIN_VALUE}) {
            Due.same("count " + no, -1, x.count(no));
        }
        Due.same("asking refuses nothing", 3, x.status(1));
    }
}
