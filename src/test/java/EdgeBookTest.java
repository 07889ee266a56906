/** Edges of promises 6, 25 and 26: the lines of a BOOK, FITS and LOOK. */
public final class EdgeBookTest {
    private static final String ALL = "0 0;1 0;2 0;3 0;4 0;5 0;6 0;7 0;8 0;9 0;10 0;11 0;";
    /** A line of towers as high as one another: one wire of slack 1, one of 2, one of 3. */
    private static final String CITY = "tower 0;tower 0;tower 0;tower 0;wire 0 1 1;wire 1 2 2;wire 2 3 3;walker 0 0 6;"
            + "walker 0 0 3;letter 0 0 2 7;";

    public static void main(String[] args) {
        noLines();
        twelveLines();
        lineTooMany();
        wireTwice();
        numbers();
        endsTooEarly();
        allStays();
        aBookAnew();
        allFits();
        oneFit();
        noFits();
        fitsBySize();
        fitsFromAToB();
        fitsOfOneLetterAlone();
        fitsAsNow();
        fitsArguments();
        lookAtNone();
        lookOfAlikeOnes();
        lookAtTheWorst();
        lookBySize();
        lookArguments();
        Due.end();
    }

    private static WirePost fullCity() {
        return Due.of(Edge.TOWERS + Edge.WIRES + Edge.WALKERS, "0");
    }

    private static void bad(String call, String text, int kind, int place) {
        WirePost x = Edge.midway();
        Due.same(call + ": " + text, kind - 10, Due.book(x, text));
        Due.same(call + ": place in " + text, place, x.fault());
        Edge.sameText(call + ": all stays with " + text, Edge.seen(Edge.midway()), Edge.seen(x));
    }

    private static void noLines() {
        WirePost x = Edge.midway();
        Due.same("9: a line", 1, x.told(8));
        Due.same("6: a book of no bytes", 0, x.book(0));
        Due.same("9: no lines", 0, x.told(8));
        Due.book(x, "0 5;");
        Due.same("6: of blanks", 0, Due.book(x, "   "));
        Due.same("9: no lines", 0, x.told(8));
        Due.same("6: in a city without wires", 0, new WirePost().book(0));
    }

    private static void twelveLines() {
        WirePost x = fullCity();
        Due.same("6: twelve lines", 12, Due.book(x, ALL));
        Due.same("9: told", 12, x.told(8));
        Due.same("6: in any order", 12, Due.book(x, "11 9;10 9;9 9;8 9;7 9;6 9;5 9;4 9;3 9;2 9;1 9;0 9;"));
    }

    /** A 13th line has an E that is in a line, or none such: 2 is the least of both. */
    private static void lineTooMany() {
        WirePost x = fullCity();
        Due.same("T: the first wire again", -8, Due.book(x, ALL + "0 0;"));
        Due.same("T: at its E", ALL.length(), x.fault());
        Due.same("T: the last wire again", -8, Due.book(x, ALL + "  11 0;"));
        Due.same("T: at its E", ALL.length() + 2, x.fault());
        Due.same("T: no such wire", -8, Due.book(x, ALL + "12 0;"));
        Due.same("T: at its E", ALL.length(), x.fault());
        Due.same("T: what can't stand there", -9, Due.book(x, ALL + "?"));
        Due.same("T: at it", ALL.length(), x.fault());
        Due.same("9: none of them stays", 0, x.told(8));
    }

    /** 2: an E twice in a BOOK. */
    private static void wireTwice() {
        bad("T: twice", "0 1;0 1;", 2, 4);
        bad("T: with another V", "0 1;0 2;", 2, 4);
        bad("T: not one behind the other", "0 1;1 1;2 1; 0 1;", 2, 13);
        bad("T: ahead of what comes behind it", "0 1;0 ?", 2, 4);
        bad("T: told otherwise", "1 1;01 1;", 2, 4);
    }

    private static void numbers() {
        WirePost x = Edge.midway();
        Due.same("T: V 0 and 99, the first and the last wire", 2, Due.book(x, "0 0;2 99;"));
        bad("T: V 100", "0 100;", 2, 2);
        bad("T: V below 0", "0 -1;", 1, 2);
        bad("T: E as many as there are", "3 0;", 2, 0);
        bad("T: E of a long one", "4294967296 0;", 2, 0);
        bad("T: E below 0", "-1 0;", 1, 0);
        WirePost none = new WirePost();
        Due.same("T: without wires", -8, Due.book(none, "0 0;"));
        Due.same("T: blanks, and none", 2, Due.book(Edge.midway(), "  0   7  ;1 8;  "));
        bad("T: two numbers alone", "0 1 2;", 1, 4);
        bad("T: a word", "wire 0 1;", 1, 0);
        bad("T: no line", ";", 1, 0);
        bad("T: an end too many", "0 1;;", 1, 4);
    }

    private static void endsTooEarly() {
        bad("T: behind E", "0", 1, 1);
        bad("T: behind blanks", "0  ", 1, 3);
        bad("T: behind V", "0 7", 1, 3);
        bad("T: a line that is right ahead of it", "0 7;1", 1, 5);
    }

    private static void allStays() {
        WirePost x = Edge.midway();
        Due.same("6: the same book once more", 1, Due.book(x, "1 7;"));
        Edge.sameText("6: it changes nothing else", Edge.seen(Edge.midway()), Edge.seen(x));
        Due.same("8: undo", 1, x.undo());
        Due.same("8: takes no book", 1, x.told(8));
        Due.same("36: restore", 0, x.restore());
        Due.same("36: nor does it", 1, x.told(8));
        Due.city(x, Edge.CITY);
        Due.same("3: a city does", 0, x.told(8));
    }

    /** A book takes the place of the one before. */
    private static void aBookAnew() {
        WirePost x = Due.of(CITY, "load");
        Due.book(x, "0 1;1 1;");
        Due.same("25: weight 1", 6, x.fits(0, 0));
        Due.same("6: one line", 1, Due.book(x, "2 9;"));
        Due.same("9: one", 1, x.told(8));
        Due.same("25: weight 9 alone", 9, x.fits(0, 1));
        Due.same("26: 0 is in no line any more", 0, x.look(0, 0));
    }

    /** Promise 25: without lines all 54 pairs fit. */
    private static void allFits() {
        WirePost x = Due.of(CITY, "load");
        Due.same("25: 6 kinds by 9 weights", 54, x.fits(0, 0));
        Due.same("25: the first, kind 0 and weight 1", 1, x.fits(0, 1));
        Due.same("25: of whom takes one kind, too", 54, x.fits(1, 0));
        WirePost alone = Due.of("tower 0;walker 0 0 0;");
        Due.same("25: in a city without wires", 54, alone.fits(0, 0));
        Due.book(x, "0 99;");
        Due.law(x, "99 + load*0");
        Due.same("25: all by a line", 54, x.fits(0, 0));
    }

    private static void oneFit() {
        WirePost x = Due.of(CITY, "kind*10 + load");
        Due.book(x, "0 1;");
        Due.same("25: kind 0, weight 1", 1, x.fits(0, 1));
        Due.same("25: alone", 1, x.fits(0, 0));
        Due.book(x, "0 59;");
        Due.same("25: kind 5, weight 9", 59, x.fits(0, 1));
        Due.same("25: alone", 1, x.fits(0, 0));
        for (int kind = 0; kind <= 5; kind++) {
            Due.book(x, "0 " + (10 * kind + 1) + ";");
            Due.same("25: weight 1, kind " + kind, 10 * kind + 1, x.fits(0, 1));
            Due.book(x, "0 " + (10 * kind + 9) + ";");
            Due.same("25: weight 9, kind " + kind, 10 * kind + 9, x.fits(0, 1));
        }
        WirePost full = Due.of(Edge.TOWERS + Edge.WIRES + Edge.WALKERS, "slack + load");
        Due.work(full, "slack 11 9;");
        Due.book(full, "11 18;");
        Due.same("25: by the last wire", 9, full.fits(5, 1));
        Due.book(full, "11 8;");
        Due.same("25: by the last wire, none", -1, full.fits(5, 1));
        Due.book(x, "0 59;1 59;2 59;");
        Due.same("25: by each wire", 1, x.fits(0, 0));
    }

    /** Promise 25: the first; NONE. */
    private static void noFits() {
        WirePost x = Due.of(CITY, "kind*10 + load");
        for (String line : new String[] {"0 0;", "0 10;", "0 60;", "0 99;", "0 59;1 58;", "0 58;1 58;2 57;"}) {
            Due.book(x, line);
            Due.same("25: none by " + line, 0, x.fits(0, 0));
            Due.same("25: no first by " + line, -1, x.fits(0, 1));
        }
    }

    private static void fitsBySize() {
        WirePost x = Due.of(CITY, "load - 5");
        Due.book(x, "0 4;");
        Due.same("25: 1 by -4 and 9 by 4, of six kinds", 12, x.fits(0, 0));
        Due.book(x, "0 0;");
        Due.same("25: 5 by 0", 5, x.fits(0, 1));
        Due.law(x, "load*99 - kind*999");
        Due.book(x, "0 99;");
        Due.same("25: 99 at most, -99 at least", 54, x.fits(0, 0));
    }

    private static void fitsFromAToB() {
        WirePost x = Due.of("tower 3;tower 8;wire 1 0 0;walker 0 0 6;", "rise + load*10");
        Due.book(x, "0 5;");
        Due.same("25: from A to B: 10 - 5", 1, x.fits(0, 1));
        Due.book(x, "0 15;");
        Due.same("25: not back: 20 - 5", 2, x.fits(0, 1));
    }

    /** Carried he just one LETTER like this: whatever he carries. */
    private static void fitsOfOneLetterAlone() {
        WirePost x = Due.of(CITY, "load + letters*10 + kind*20");
        Due.book(x, "0 14;");
        Due.same("25: weight 4", 4, x.fits(0, 1));
        Due.work(x, "take 0 0;");
        Due.same("25: with a letter in hand", 4, x.fits(0, 1));
        Due.same("25: one", 1, x.fits(0, 0));
    }

    private static void fitsAsNow() {
        WirePost x = Due.of(CITY, "load + fog*10 + resin*20 + hum*30 + day*40");
        Due.book(x, "0 5;");
        Due.same("25: as at first", 5, x.fits(1, 1));
        Due.work(x, "fog;");
        Due.book(x, "0 15;");
        Due.same("25: in fog", 5, x.fits(1, 1));
        Due.work(x, "resin 1;");
        Due.book(x, "0 35;");
        Due.same("25: with resin", 5, x.fits(1, 1));
        Due.work(x, "go 1 1;");
        Due.same("12: he has fallen", -1, x.walker(1, 0));
        Due.book(x, "0 65;");
        Due.same("25: of the fallen, too, by hum", 5, x.fits(1, 1));
        Due.work(x, "night;");
        Due.book(x, "0 45;");
        Due.same("25: the next day", 5, x.fits(1, 1));
        Due.work(x, "slack 0 9;");
        Due.law(x, "slack + load");
        Due.book(x, "0 10;");
        Due.same("25: by slack as now", 1, x.fits(1, 1));
    }

    private static void fitsArguments() {
        for (int no : Edge.outside(0, 2)) {
            Edge.noSuch("25: walker " + no, x -> x.fits(no, 0));
            Edge.noSuch("25: walker " + no + " ahead of what", x -> x.fits(no, 2));
            Edge.noSuch("26: walker " + no, x -> x.look(no, 0));
            Edge.noSuch("26: walker " + no + " ahead of what", x -> x.look(no, -1));
        }
        for (int no : Edge.outside(0, 1)) {
            Edge.illegal("25: what " + no, x -> x.fits(0, no));
            Edge.illegal("26: what " + no, x -> x.look(0, no));
        }
    }

    /** Promise 26: NONE both: all WIRES are in lines, or there are none. */
    private static void lookAtNone() {
        WirePost none = Due.of("tower 0;walker 0 0 0;");
        Due.same("26: there are none", -1, none.look(0, 0));
        Due.same("26: nor left", -1, none.look(0, 1));
        WirePost x = Due.of(CITY, "load");
        Due.book(x, "0 3;1 3;2 3;");
        Due.same("26: all in lines", -1, x.look(0, 0));
        Due.same("26: nor left", -1, x.look(0, 1));
        Due.book(x, "0 3;2 3;");
        Due.same("26: all but one", 1, x.look(0, 0));
        Due.same("26: six are left", 6, x.look(0, 1));
        WirePost full = fullCity();
        Due.book(full, ALL);
        Due.same("26: all twelve", -1, full.look(5, 0));
        Due.book(full, ALL.substring(0, ALL.length() - 5));
        Due.same("26: but the last", 11, full.look(5, 0));
        Due.same("26: by which nothing is told", 54, full.look(5, 1));
    }

    /** Of these the first. */
    private static void lookOfAlikeOnes() {
        WirePost x = Due.of(CITY, "load + kind*0");
        Due.same("26: all alike", 0, x.look(0, 0));
        Due.same("26: six left", 6, x.look(0, 1));
        Due.book(x, "0 3;");
        Due.same("26: of two alike", 1, x.look(0, 0));
        Due.law(x, "7");
        Due.same("26: no fits: the first", 1, x.look(0, 0));
        Due.same("26: none is left", 0, x.look(0, 1));
        Due.book(x, "0 7;");
        Due.same("26: all fit, and stay", 54, x.look(0, 1));
    }

    /** Fewest FITS are left at the worst. */
    private static void lookAtTheWorst() {
        WirePost x = Due.of(CITY, "kind*(slack/2)*9 + load*(slack/3)*(1-slack/9)");
        Due.same("26: wire 0 tells nothing, 1 the kind, 2 both", 2, x.look(0, 0));
        Due.same("26: one is left", 1, x.look(0, 1));
        Due.work(x, "slack 2 2;");
        Due.same("26: now 1 and 2 tell the kind", 1, x.look(0, 0));
        Due.same("26: nine are left", 9, x.look(0, 1));
        Due.law(x, "least[load, slack]");
        Due.same("26: 1: all 54; 2: 6 and 48", 1, x.look(0, 0));
        Due.same("26: 48, not 6", 48, x.look(0, 1));
    }

    /** By size: what leans as far to either side is seen as one. */
    private static void lookBySize() {
        WirePost x = Due.of(CITY, "load - slack*5");
        Due.same("26: by slack 1 4 pairs of sizes, by 2 none", 1, x.look(0, 0));
        Due.same("26: six are left", 6, x.look(0, 1));
        Due.book(x, "1 9;");
        Due.same("26: weight 1 of six kinds", 6, x.look(0, 1));
        Due.law(x, "load*99 - kind*999");
        x.book(0);
        Due.same("26: 99 at most", 54, x.look(0, 1));
    }

    private static void lookArguments() {
        Edge.asks("26: of a busy post", Edge::busy, x -> x.look(0, 0), 0);
        Edge.asks("25: of a busy post", Edge::busy, x -> x.fits(0, 0), 2);
        Edge.asks("25: the first of them", Edge::busy, x -> x.fits(0, 1), 2);
    }
}
