/** Edges of promises 4, 15 to 17, and of the LAW's words in the document's terms. */
public final class EdgeLawTest {
    /** 2 to the 31st less 1, the greatest number of 32 bits, told by numbers up to 999. */
    private static final String GREATEST = "(999*999*999*2+999*999*153+999*784+280)";
    private static final String LEAST = "(256*256*256*128)";

    public static void main(String[] args) {
        without();
        leastAndGreatestLean();
        numbers();
        wraps();
        divides();
        leastAndMost();
        sixOpen();
        sevenOpen();
        order();
        nothingMore();
        words();
        endsTooEarly();
        allStays();
        wouldArguments();
        wouldEdges();
        leanOfWhatHeCarries();
        leanAlongAndBack();
        leanArguments();
        overByNerve();
        Due.end();
    }

    private static int asked(WirePost x) {
        return x.would(7, -11, 13, 5, 2, 17, 1, 3, 19);
    }

    private static void leans(String call, String law, int want) {
        WirePost x = new WirePost();
        Due.same(call + ": " + law, 1, Due.law(x, law));
        Due.same(call + ": no fault", -1, x.fault());
        Due.same(call + ": lean by " + law, want, asked(x));
    }

    private static void bad(String call, String law, int kind, int place) {
        WirePost x = new WirePost();
        Due.law(x, "77");
        Due.same(call + ": " + law, kind - 10, Due.law(x, law));
        Due.same(call + ": place in " + law, place, x.fault());
        Due.same(call + ": the law stays", 77, asked(x));
    }

    /** Without: slack * 2 + load + kind. */
    private static void without() {
        WirePost x = new WirePost();
        Due.same("T: without a law", 32, asked(x));
        Due.same("T: all at their least", 0, x.would(0, -40, 0, 0, 0, 0, 0, 0, 0));
        Due.same("T: all at their most", 41, x.would(9, 40, 18, 5, 2, 999, 1, 9, 700));
        Due.law(x, "7");
        Due.same("4: with one", 7, asked(x));
        x.city(0);
        Due.same("3: a new city has none", 32, asked(x));
    }

    /** LEAN: -99 at least, 99 at most. */
    private static void leastAndGreatestLean() {
        leans("T: 98", "98", 98);
        leans("T: 99", "99", 99);
        leans("T: 100 is 99", "100", 99);
        leans("T: 999 is 99", "999", 99);
        leans("T: the greatest is 99", GREATEST, 99);
        leans("T: -98", "0-98", -98);
        leans("T: -99", "0-99", -99);
        leans("T: -100 is -99", "0-100", -99);
        leans("T: the least is -99", LEAST, -99);
        leans("T: what comes out alone is held to it", "999-950", 49);
        leans("T: within a least it is not", "least[200,300]-150", 50);
        leans("T: nor within brackets", "(0-500)+480", -20);
    }

    /** N (0 to 999). */
    private static void numbers() {
        leans("T: 0", "0", 0);
        leans("T: 00", "00", 0);
        leans("T: 999", "999-900", 99);
        leans("T: 0 ahead of it", "0000000999/10", 99);
        bad("T: 1000", "1000", 2, 0);
        bad("T: 01000", "1+01000", 2, 2);
        bad("T: 2 to the 32nd and 1", "4294967297", 2, 0);
        bad("T: a long one", "9".repeat(150), 2, 0);
        bad("T: -1", "-1", 1, 0);
        bad("T: +1", "+1", 1, 0);
        bad("T: a point", "1.5", 1, 1);
    }

    /** Values are whole numbers of 32 bits that wrap. */
    private static void wraps() {
        leans("T: the greatest is above 0", GREATEST + "/999/999/999", 2);
        leans("T: 1 more is the least", "(" + GREATEST + "+1)/999/999/999", -2);
        leans("T: 1 less than the least is the greatest", "(" + LEAST + "-1)/999/999/999", 2);
        leans("T: the least taken from 0 is itself", "(0-" + LEAST + ")/999/999/999", -2);
        leans("T: the least by -1 is itself", LEAST + "/(0-1)/999/999/999", -2);
        leans("T: the least times -1 is itself", LEAST + "*(0-1)/999/999/999", -2);
        leans("T: 2 to the 32nd is 0", "256*256*256*256", 0);
        leans("T: and 7 is 7", "256*256*256*256+7", 7);
        leans("T: twice the greatest is -2", GREATEST + "*2", -2);
        leans("T: the greatest and itself", GREATEST + "+" + GREATEST, -2);
        leans("T: 65537 by itself is 131073", "(256*256+1)*(256*256+1)-131*999", 99);
        leans("T: 65537 by itself, less 131072", "(256*256+1)*(256*256+1)-512*256", 1);
    }

    /** / cuts, by 0 it is 0. */
    private static void divides() {
        leans("T: 7/2", "7/2", 3);
        leans("T: -7/2", "(0-7)/2", -3);
        leans("T: 7/-2", "7/(0-2)", -3);
        leans("T: -7/-2", "(0-7)/(0-2)", 3);
        leans("T: 1/2", "1/2", 0);
        leans("T: -1/2", "(0-1)/2", 0);
        leans("T: 7/7", "7/7", 1);
        leans("T: 7/0", "7/0", 0);
        leans("T: 0/0", "0/0", 0);
        leans("T: -7/0", "(0-7)/0", 0);
        leans("T: the least by 0", LEAST + "/0", 0);
        leans("T: by a value that is 0", "9/(slack-7)+5", 5);
        leans("T: 7/0*3", "7/0*3+4", 4);
    }

    private static void leastAndMost() {
        leans("T: least", "least[3,4]", 3);
        leans("T: least, the other way", "least[4,3]", 3);
        leans("T: least of alike ones", "least[4,4]", 4);
        leans("T: most", "most[3,4]", 4);
        leans("T: most, the other way", "most[4,3]", 4);
        leans("T: below 0 they are by value", "least[0-9,3]", -9);
        leans("T: most below 0", "most[0-9,0-3]", -3);
        leans("T: of the least and the greatest", "most[" + LEAST + "," + GREATEST + "]", 99);
        leans("T: of the greatest and the least", "least[" + GREATEST + "," + LEAST + "]", -99);
    }

    /** Six of ( least most may be open at one time. */
    private static void sixOpen() {
        leans("T: six brackets", "((((((5))))))", 5);
        leans("T: six, closed, and six again", "((((((5))))))-((((((3))))))", 2);
        leans("T: six leasts, the first inside", "least[least[least[least[least[least[5,6],6],6],6],6],6]", 5);
        leans("T: six mosts, the second inside", "most[1,most[1,most[1,most[1,most[1,most[1,9]]]]]]", 9);
        leans("T: six of all", "(least[8,(most[1,(least[4,6]+1)])])", 5);
        leans("T: a closed one is not open", "(((((least[1,2]+(3)+most[4,5])))))", 9);
        leans("T: one behind the other, as many as stand there", "(1)+(1)+(1)+(1)+(1)+(1)+(1)+(1)+(1)", 9);
        leans("T: the deepest stack of values", "1+1*(1+1*(1+1*(1+1*(1+1*(1+1*(1+1*2))))))", 9);
        leans("T: the deepest stack of leasts",
                "1+1*most[0,1+1*most[0,1+1*most[0,1+1*most[0,1+1*most[0,1+1*most[0,1+1*5]]]]]]", 12);
    }

    /** 3: a 7th of ( least most that is open at one time, at its first byte. */
    private static void sevenOpen() {
        bad("T: a 7th bracket", "(((((((5)))))))", 3, 6);
        bad("T: behind blanks", "((((((  (5)))))))", 3, 8);
        bad("T: a 7th least", "((((((least[1,2]))))))", 3, 6);
        bad("T: a 7th most", "((((((most[1,2]))))))", 3, 6);
        bad("T: a 7th behind a value", "((((((1+(2)))))))", 3, 8);
        bad("T: in the second part of a least", "(((((least[1,(2)])))))", 3, 13);
        bad("T: in a most's first part", "(((((most[(2),1])))))", 3, 10);
        bad("T: once some were closed", "(1)+((((((1))))))*((((((  most[1,2]))))))", 3, 26);
        bad("T: its word alone", "((((((least", 3, 6);
        bad("T: a bracket alone", "(((((((", 3, 6);
        bad("T: a word that is none", "((((((leasts[1,2]", 1, 6);
        leans("T: values are never a 7th", "((((((slack))))))", 7);
    }

    /** E: T { + or - T }. T: U { * or / U }. */
    private static void order() {
        leans("T: * ahead of +", "1+2*3", 7);
        leans("T: / ahead of -", "9-8/2", 5);
        leans("T: - from the left", "9-4-3", 2);
        leans("T: / from the left", "48/4/3", 4);
        leans("T: * and / from the left", "7/2*2", 6);
        leans("T: / behind *", "7*2/4", 3);
        leans("T: brackets first", "(1+2)*3", 9);
        leans("T: - and + from the left", "9-4+3", 8);
    }

    /** At the end nothing more. */
    private static void nothingMore() {
        leans("T: blanks at the end", "5   ", 5);
        leans("T: blanks ahead of all", "  least  [  5  ,  (  6  )  ]  *  1  ", 5);
        bad("T: a second E", "5 5", 1, 2);
        bad("T: a word", "5 slack", 1, 2);
        bad("T: a word right behind", "5slack", 1, 1);
        bad("T: a clause's end", "5;", 1, 1);
        bad("T: a bracket too many", "(5))", 1, 3);
        bad("T: a ] too many", "least[1,2]]", 1, 10);
        bad("T: a comma", "5,6", 1, 1);
        bad("T: three of a least", "least[1,2,3]", 1, 9);
        bad("T: one of a least", "least[1]", 1, 7);
        bad("T: a least by ( and )", "least(1,2)", 1, 5);
        bad("T: ( closed by ]", "(1]", 1, 2);
        bad("T: [ closed by )", "least[1,2)", 1, 9);
        bad("T: nothing in brackets", "()", 1, 1);
        bad("T: nothing in a least", "least[,1]", 1, 6);
        bad("T: two signs", "1--1", 1, 2);
        bad("T: a sign that is none", "1%2", 1, 1);
        bad("T: a tab", "1\t", 1, 1);
    }

    private static void words() {
        String[] words = {"slack", "rise", "load", "kind", "letters", "hum", "fog", "resin", "day"};
        int[] values = {7, -11, 13, 5, 2, 17, 1, 3, 19};
        for (int k = 0; k < words.length; k++) {
            leans("T: " + words[k], words[k], values[k]);
            bad("T: one letter more", words[k] + "x", 1, 0);
            bad("T: one fewer", "1+" + words[k].substring(1), 1, 2);
        }
        bad("T: a letter, not letters", "letter", 1, 0);
        bad("T: a great letter", "Slack", 1, 0);
        bad("T: two run together", "slackrise", 1, 0);
        bad("T: a value has no brackets", "slack[1,2]", 1, 5);
    }

    /** 1, at the length, if the text ends too early. */
    private static void endsTooEarly() {
        bad("T: nothing", "", 1, 0);
        bad("T: blanks alone", "   ", 1, 3);
        bad("T: behind +", "1+", 1, 2);
        bad("T: behind * and blanks", "1*  ", 1, 4);
        bad("T: behind (", "(", 1, 1);
        bad("T: ahead of )", "(1", 1, 2);
        bad("T: behind least", "least", 1, 5);
        bad("T: behind [", "least[", 1, 6);
        bad("T: ahead of the comma", "least[1", 1, 7);
        bad("T: behind the comma", "least[1,", 1, 8);
        bad("T: ahead of ]", "least[1,2  ", 1, 11);
    }

    /** Promise 4: likewise all stays with a fault; a law changes nothing but itself. */
    private static void allStays() {
        for (String wrong : new String[] {"", "1000", "(((((((1)))))))", "slack+"}) {
            WirePost x = Edge.midway();
            Due.law(x, wrong);
            Edge.sameText("4: all stays with " + wrong, Edge.seen(Edge.midway()), Edge.seen(x));
        }
        WirePost x = Edge.midway();
        Due.same("4: the same law once more", 1, Due.law(x, Edge.LAW));
        Edge.sameText("4: nothing else is changed", Edge.seen(Edge.midway()), Edge.seen(x));
        Due.law(x, "9");
        Due.same("8: undo", 1, x.undo());
        Due.same("8: brings no law back", 9, x.lean(0, 0, 0));
        Due.same("36: restore", 0, x.restore());
        Due.same("36: nor does it", 9, x.lean(0, 0, 0));
    }

    /** Promise 16: slack (0 to 9), rise (-40 to 40), load (0 to 18), kind (0 to 5), letters (0 to 2) and so on. */
    private static void wouldArguments() {
        String[] names = {"slack", "rise", "load", "kind", "letters", "hum", "fog", "resin", "day"};
        int[] most = {9, 40, 18, 5, 2, 999, 1, 9, 700};
        for (int k = 0; k < 9; k++) {
            int least = k == 1 ? -40 : 0;
            for (int wrong : Edge.outside(least, most[k])) {
                int[] a = new int[9];
                a[k] = wrong;
                Edge.illegal("16: " + names[k] + " " + wrong,
                        x -> x.would(a[0], a[1], a[2], a[3], a[4], a[5], a[6], a[7], a[8]));
            }
        }
    }

    private static void wouldEdges() {
        String[] names = {"slack", "rise", "load", "kind", "letters", "hum/10", "fog", "resin", "day/10"};
        int[] most = {9, 40, 18, 5, 2, 999, 1, 9, 700};
        int[] want = {9, 40, 18, 5, 2, 99, 1, 9, 70};
        for (int k = 0; k < 9; k++) {
            int[] a = new int[9];
            a[k] = most[k];
            WirePost x = new WirePost();
            Due.law(x, names[k]);
            Due.same("16: at most " + names[k], want[k], x.would(a[0], a[1], a[2], a[3], a[4], a[5], a[6], a[7], a[8]));
            a[k] = k == 1 ? -40 : 0;
            Due.same("16: at least " + names[k], k == 1 ? -40 : 0,
                    x.would(a[0], a[1], a[2], a[3], a[4], a[5], a[6], a[7], a[8]));
        }
        Edge.asks("16: asked of a busy post", Edge::busy, x -> x.would(9, 40, 18, 5, 2, 9, 1, 9, 7), 59);
    }

    /** "kind" (greatest KIND he carries; 0 without), "load", "letters". */
    private static void leanOfWhatHeCarries() {
        String city = "tower 0;tower 0;wire 0 1 9;walker 0 40 6;walker 0 40 6;letter 0 1 5 9;letter 0 1 4 9;"
                + "letter 0 1 0 1;";
        WirePost x = Due.of(city, "kind");
        Due.same("T: no kind without letters", 0, x.lean(0, 0, 0));
        Due.work(x, "take 0 2;");
        Due.same("T: kind 0", 0, x.lean(0, 0, 0));
        Due.work(x, "give 0 2;take 0 0;take 0 1;");
        Due.same("T: the greatest, told first", 5, x.lean(0, 0, 0));
        Due.same("T: the other one carries nothing", 0, x.lean(1, 0, 0));
        Due.law(x, "load");
        Due.same("T: both weights", 18, x.lean(0, 0, 0));
        Due.same("T: none", 0, x.lean(1, 0, 0));
        Due.law(x, "letters");
        Due.same("T: two", 2, x.lean(0, 0, 0));
        Due.same("T: none", 0, x.lean(1, 0, 0));
        Due.work(x, "give 0 0;");
        Due.same("T: one", 1, x.lean(0, 0, 0));
        Due.law(x, "kind");
        Due.same("T: its kind", 4, x.lean(0, 0, 0));
    }

    /** Promise 15: how 0 from its A to its B, 1 back; wherever he is, FALLEN, too. */
    private static void leanAlongAndBack() {
        WirePost x = Due.of("tower 40;tower 0;tower 7;wire 0 1 3;wire 2 1 4;walker 2 39 6;walker 0 40 6;", "rise");
        Due.same("15: down", -40, x.lean(0, 0, 0));
        Due.same("15: up", 40, x.lean(0, 0, 1));
        Due.same("15: from A to B, A told behind B", -7, x.lean(1, 1, 0));
        Due.same("15: and back", 7, x.lean(1, 1, 1));
        Due.work(x, "go 1 1;go 0 1;go 0 0;");
        Due.same("15: he has fallen", -1, x.walker(0, 0));
        Due.same("15: and leans, too", 40, x.lean(0, 0, 1));
        Due.law(x, "hum*7+fog*3+resin+day*30");
        Due.work(x, "fog;resin 1;");
        Due.same("15: as he is", 11, x.lean(1, 1, 0));
        Due.same("15: on a wire that was walked twice", 18, x.lean(1, 0, 0));
        Due.same("15: without resin", 17, x.lean(0, 0, 0));
        Due.work(x, "night;");
        Due.same("15: the next day", 30, x.lean(1, 0, 0));
    }

    private static void leanArguments() {
        for (int no : Edge.outside(0, 2)) {
            Edge.noSuch("15: walker " + no, x -> x.lean(no, 0, 0));
            Edge.noSuch("15: wire " + no, x -> x.lean(0, no, 0));
            Edge.noSuch("15: walker " + no + " ahead of how", x -> x.lean(no, 0, 2));
            Edge.noSuch("15: wire " + no + " ahead of how", x -> x.lean(0, no, -1));
            Edge.noSuch("17: walker " + no, x -> x.over(no, 0, 0) ? 1 : 0);
            Edge.noSuch("17: wire " + no, x -> x.over(0, no, 0) ? 1 : 0);
            Edge.noSuch("17: walker " + no + " ahead of how", x -> x.over(no, 0, 2) ? 1 : 0);
            Edge.noSuch("17: wire " + no + " ahead of how", x -> x.over(0, no, -1) ? 1 : 0);
        }
        for (int no : Edge.outside(0, 1)) {
            Edge.illegal("15: how " + no, x -> x.lean(0, 0, no));
            Edge.illegal("17: how " + no, x -> x.over(0, 0, no) ? 1 : 0);
        }
        Edge.asks("15: asked", Edge::busy, x -> x.lean(0, 1, 0), 3 + 3 + 1 + 1 + 1 - 1 + 1);
        Edge.asks("15: back", Edge::busy, x -> x.lean(0, 1, 1), 3 + 3 + 1 - 1 + 1 - 1 + 1);
        Edge.asks("17: asked", Edge::busy, x -> x.over(0, 1, 0) ? 1 : 0, 0);
        Edge.asks("17: back", Edge::busy, x -> x.over(0, 1, 1) ? 1 : 0, 1);
    }

    /** LEAN by size is no more than his NERVE. */
    private static void overByNerve() {
        String city = "tower 0;tower 0;wire 0 1 0;walker 1 40 6;walker 1 0 6;walker 1 39 6;";
        String[] laws = {"40", "41", "0-40", "0-41", "0", "1", "0-1", "39", "0-39"};
        int[] most = {1, 0, 1, 0, 1, 1, 1, 1, 1};
        int[] none = {0, 0, 0, 0, 1, 0, 0, 0, 0};
        int[] less = {0, 0, 0, 0, 1, 1, 1, 1, 1};
        for (int k = 0; k < laws.length; k++) {
            WirePost x = Due.of(city, laws[k]);
            Due.same("17: nerve 40 by " + laws[k], most[k], x.over(0, 0, 0) ? 1 : 0);
            Due.same("17: nerve 0 by " + laws[k], none[k], x.over(1, 0, 1) ? 1 : 0);
            Due.same("17: nerve 39 by " + laws[k], less[k], x.over(2, 0, 1) ? 1 : 0);
            Due.work(x, "go 0 0;go 1 0;go 2 0;");
            Due.same("5: nerve 40 walked by " + laws[k], most[k] - 1, x.walker(0, 0));
            Due.same("5: nerve 0 walked by " + laws[k], none[k] - 1, x.walker(1, 0));
            Due.same("5: nerve 39 walked by " + laws[k], less[k] - 1, x.walker(2, 0));
            Due.same("17: whether he has fallen or not", most[k], x.over(0, 0, 0) ? 1 : 0);
        }
    }
}
