/** Edges of promise 3 and of the CITY's words in the document's terms. */
public final class EdgeCityTest {
    private static final String TWO = "tower 1;tower 2;";
    private static final int AT = TWO.length();

    public static void main(String[] args) {
        fullCity();
        greatestOfTheLast();
        towersTooMany();
        wiresTooMany();
        walkersTooMany();
        lettersTooMany();
        heights();
        wireEnds();
        wireTwice();
        slacks();
        walkerNumbers();
        letterNumbers();
        toldAhead();
        numbers();
        words();
        blanks();
        endsTooEarly();
        firstFromTheLeft();
        allStays();
        allIsNew();
        smallerBehindTheFullest();
        Due.end();
    }

    private static void good(String call, String text, int letters) {
        WirePost x = new WirePost();
        Due.same(call, letters, Due.city(x, text));
        Due.same(call + ": no fault", -1, x.fault());
    }

    private static void bad(String call, String text, int kind, int place) {
        WirePost x = new WirePost();
        Due.same(call, kind - 10, Due.city(x, text));
        Due.same(call + ": place", place, x.fault());
        Due.same(call + ": nothing of it stays", 0, x.told(0) + x.told(1) + x.told(2) + x.told(3));
    }

    /** 8, 12, 6 and 8: 34 CLAUSES, so that a 61st can't come ahead of another fault. */
    private static void fullCity() {
        WirePost x = Due.of(Edge.TOWERS + Edge.WIRES + Edge.WALKERS + Edge.LETTERS);
        int[] told = {8, 12, 6, 8, 0, 0, 0, 0, 0, 0, 0};
        for (int what = 0; what <= 10; what++) {
            Due.same("3: the fullest city, told " + what, told[what], x.told(what));
        }
        Due.same("10: the last tower", 64, x.tower(7, 1));
        Due.same("11: the last wire", 6, x.wire(11, 1));
        Due.same("12: the last walker", 0, x.walker(5, 0));
        Due.same("13: the last letter", 1, x.letter(7, 3));
        Due.noSuch("10: no tower 8", () -> x.tower(8, 0));
        Due.noSuch("11: no wire 12", () -> x.wire(12, 0));
        Due.noSuch("12: no walker 6", () -> x.walker(6, 0));
        Due.noSuch("13: no letter 8", () -> x.letter(8, 0));
        Due.same("10: all walkers", 63, x.tower(0, 2));
        Due.same("10: all letters", 255, x.tower(0, 3));
    }

    /** All numbers of the last ones as great as can be. */
    private static void greatestOfTheLast() {
        WirePost x = Due.of("tower 0;".repeat(7) + "tower 40;" + Edge.WIRES.substring(0, 121) + "wire 7 6 9;"
                + "walker 0 0 0;".repeat(5) + "walker 7 40 6;" + "letter 0 0 0 1;".repeat(7) + "letter 7 7 5 9;");
        Due.same("10: height", 40, x.tower(7, 0));
        int[] wire = {7, 6, 9, 0};
        int[] walker = {7, 40, 6, 0, 0, 0, 7};
        int[] letter = {7, 7, 5, 9, 7, -1, 0};
        for (int what = 0; what <= 3; what++) {
            Due.same("11: the last wire, " + what, wire[what], x.wire(11, what));
        }
        for (int what = 0; what <= 6; what++) {
            Due.same("12: the last walker, " + what, walker[what], x.walker(5, what));
            Due.same("13: the last letter, " + what, letter[what], x.letter(7, what));
        }
        Due.same("15: by the last wire's slack", 18, x.lean(5, 11, 0));
        Due.law(x, "rise");
        Due.same("15: and its rise", -40, x.lean(5, 11, 0));
    }

    private static void towersTooMany() {
        good("T: eight towers", Edge.TOWERS, 0);
        bad("T: a ninth tower, at its word", Edge.TOWERS + "tower 0;", 3, 64);
        bad("T: behind blanks", Edge.TOWERS + "   tower 0;", 3, 67);
        bad("T: whatever its height", Edge.TOWERS + "tower 41;", 3, 64);
        bad("T: its word alone", Edge.TOWERS + "tower", 3, 64);
        bad("T: a word that is none", Edge.TOWERS + "towers 0;", 1, 64);
        good("T: other clauses come behind eight towers", Edge.TOWERS + "wire 7 6 9;letter 7 7 5 9;", 1);
    }

    private static void wiresTooMany() {
        String full = Edge.TOWERS + Edge.WIRES;
        good("T: twelve wires", full, 0);
        bad("T: a 13th wire, at its word", full + "wire 1 7 0;", 3, full.length());
        bad("T: behind blanks", full + " wire 1 7 0;", 3, full.length() + 1);
        bad("T: whatever its ends", full + "wire 0 0 0;", 3, full.length());
        good("T: walkers come behind twelve wires", full + "walker 7 0 0;", 0);
    }

    private static void walkersTooMany() {
        String full = "tower 0;" + Edge.WALKERS;
        good("T: six walkers", full, 0);
        bad("T: a seventh walker, at its word", full + "walker 0 0 0;", 3, full.length());
        bad("T: whatever its tower", full + "walker 1 0 0;", 3, full.length());
        good("T: towers come behind six walkers", full + "tower 0;letter 1 1 0 1;", 1);
    }

    private static void lettersTooMany() {
        String full = "tower 0;" + Edge.LETTERS;
        good("T: eight letters", full, 8);
        bad("T: a ninth letter, at its word", full + "letter 0 0 0 1;", 3, full.length());
        bad("T: whatever its weight", full + "letter 0 0 0 0;", 3, full.length());
        good("T: walkers come behind eight letters", full + "walker 0 0 6;", 8);
    }

    private static void heights() {
        WirePost x = Due.of("tower 0;tower 40;");
        Due.same("T: height 0", 0, x.tower(0, 0));
        Due.same("T: height 40", 40, x.tower(1, 0));
        bad("T: height 41", "tower 41;", 2, 6);
        bad("T: height -1", "tower -1;", 1, 6);
    }

    private static void wireEnds() {
        good("T: the first and the last tower", TWO + "wire 0 1 0;", 0);
        good("T: and back", TWO + "wire 1 0 0;", 0);
        bad("T: A as many as there are", TWO + "wire 2 0 0;", 2, AT + 5);
        bad("T: B as many as there are", TWO + "wire 0 2 0;", 2, AT + 7);
        bad("T: A and B: the first from the left", TWO + "wire 2 2 0;", 2, AT + 5);
        bad("T: B as A", TWO + "wire 0 0 0;", 2, AT + 7);
        bad("T: B as A, the last", TWO + "wire 1  1 0;", 2, AT + 8);
        bad("T: A below 0", TWO + "wire -1 0 0;", 1, AT + 5);
    }

    private static void wireTwice() {
        String one = TWO + "tower 3;wire 0 1 0;";
        int at = one.length();
        bad("T: a wire is between, at B", one + "wire 0 1 0;", 2, at + 7);
        bad("T: a wire is between, told the other way", one + "wire 1 0 0;", 2, at + 7);
        good("T: none is between 1 and 2", one + "wire 1 2 0;", 0);
        good("T: nor between 2 and 0", one + "wire 2 0 0;", 0);
    }

    private static void slacks() {
        WirePost x = Due.of(TWO + "tower 3;wire 0 1 0;wire 1 2 9;");
        Due.same("T: slack 0", 0, x.wire(0, 2));
        Due.same("T: slack 9", 9, x.wire(1, 2));
        bad("T: slack 10", TWO + "wire 0 1 10;", 2, AT + 9);
    }

    private static void walkerNumbers() {
        WirePost x = Due.of(TWO + "walker 0 0 0;walker 1 40 6;");
        Due.same("T: tower 0", 0, x.walker(0, 0));
        Due.same("T: nerve 0", 0, x.walker(0, 1));
        Due.same("T: kind 0", 0, x.walker(0, 2));
        Due.same("T: the last tower", 1, x.walker(1, 0));
        Due.same("T: nerve 40", 40, x.walker(1, 1));
        Due.same("T: any kind", 6, x.walker(1, 2));
        bad("T: a tower that is not told", TWO + "walker 2 0 0;", 2, AT + 7);
        bad("T: nerve 41", TWO + "walker 0 41 0;", 2, AT + 9);
        bad("T: kind 7", TWO + "walker 0 0 7;", 2, AT + 11);
    }

    private static void letterNumbers() {
        WirePost x = Due.of(TWO + "letter 0 1 0 1;letter 1 1 5 9;");
        Due.same("T: from tower 0", 0, x.letter(0, 0));
        Due.same("T: to the last", 1, x.letter(0, 1));
        Due.same("T: kind 0", 0, x.letter(0, 2));
        Due.same("T: weight 1", 1, x.letter(0, 3));
        Due.same("T: from its T", 1, x.letter(1, 0));
        Due.same("T: kind 5", 5, x.letter(1, 2));
        Due.same("T: weight 9", 9, x.letter(1, 3));
        Due.same("13: told at its T it is not there", 0, x.letter(1, 6));
        bad("T: F not told", TWO + "letter 2 0 0 1;", 2, AT + 7);
        bad("T: T not told", TWO + "letter 0 2 0 1;", 2, AT + 9);
        bad("T: kind 6", TWO + "letter 0 0 6 1;", 2, AT + 11);
        bad("T: weight 0", TWO + "letter 0 0 0 0;", 2, AT + 13);
        bad("T: weight 10", TWO + "letter 0 0 0 10;", 2, AT + 13);
    }

    /** Towers that come behind are not told ahead. */
    private static void toldAhead() {
        bad("T: a wire ahead of all towers", "wire 0 1 0;" + TWO, 2, 5);
        bad("T: a walker ahead of all towers", "walker 0 0 0;" + TWO, 2, 7);
        bad("T: a letter ahead of all towers", "letter 0 0 0 1;" + TWO, 2, 7);
        bad("T: a wire to the next tower", "tower 1;wire 0 1 0;tower 1;", 2, 15);
        bad("T: a walker at the next tower", "tower 1;walker 1 0 0;tower 1;", 2, 15);
        bad("T: a letter to the next tower", "tower 1;letter 0 1 0 1;tower 1;", 2, 17);
        good("T: told ahead, and others behind", "tower 1;walker 0 0 0;letter 0 0 0 1;tower 1;wire 1 0 1;", 1);
    }

    /** Numbers: digits, as many as stand there. */
    private static void numbers() {
        WirePost x = Due.of("tower 0000000000000000000000000040;tower 00;");
        Due.same("T: as many as stand there", 40, x.tower(0, 0));
        Due.same("T: two of 0", 0, x.tower(1, 0));
        bad("T: 2 to the 32nd does not wrap", "tower 4294967296;", 2, 6);
        bad("T: nor 2 to the 32nd and 7", "tower 4294967303;", 2, 6);
        bad("T: nor 2 to the 64th", "tower 18446744073709551616;", 2, 6);
        bad("T: nor a hundred digits", "tower 1" + "0".repeat(99) + ";", 2, 6);
        bad("T: digits that part are two numbers", "tower 4 0;", 1, 8);
        bad("T: no sign ahead of one", "tower +4;", 1, 6);
        bad("T: a word behind digits", "tower 4x;", 1, 7);
        bad("T: the byte below the digits", "tower /;", 1, 6);
        bad("T: the byte above the digits", "tower :;", 1, 6);
        bad("T: digits, then the byte above", "tower 1:;", 1, 7);
        bad("T: digits, then the byte below", "tower 1/;", 1, 7);
        good("T: digits join no word", "tower1;tower2;wire0 1 2;", 0);
        bad("T: digits together are one number", "tower1;tower2;wire01 2;", 2, 21);
    }

    /** WORDS: small letters, as many as stand there. */
    private static void words() {
        bad("T: more letters than the word", "towerr 1;", 1, 0);
        bad("T: the first letter more", "towera 1;", 1, 0);
        bad("T: the last letter more", "towerz 1;", 1, 0);
        bad("T: fewer", "towe 1;", 1, 0);
        bad("T: great letters", "TOWER 1;", 1, 0);
        bad("T: a great letter within", "towEr 1;", 1, 0);
        bad("T: parted", "to wer 1;", 1, 0);
        bad("T: two words run together", "towertower 1;", 1, 0);
        bad("T: another text's word", "fog;", 1, 0);
        bad("T: a law's word", "slack;", 1, 0);
        bad("T: the byte below a", "tower`1;", 1, 5);
        bad("T: the byte above z", "tower{1;", 1, 5);
        bad("T: no word", ";", 1, 0);
        bad("T: a number for a word", "7;", 1, 0);
        bad("T: no word behind a clause", "tower 1;;", 1, 8);
    }

    /** Blanks (32) may stand ahead of all these, and at the end. */
    private static void blanks() {
        good("T: blanks everywhere", "  tower   1  ;  tower  2;  wire  0  1  2  ;  letter  0  1  0  1  ;   ", 1);
        good("T: blanks alone", " ", 0);
        good("T: at the end", "tower 1; ", 0);
        for (char sign : new char[] {9, 10, 11, 13, 31, 33, 0, 160, 255}) {
            bad("T: byte " + (int) sign + " is no blank", " " + sign, 1, 1);
            bad("T: byte " + (int) sign + " ahead of a number", "tower" + sign + "1;", 1, 5);
        }
    }

    /** 1, at the length, if the text ends too early. */
    private static void endsTooEarly() {
        String text = "tower 1;tower 2;wire 0 1 2;walker 0 1 2;letter 0 1 2 3;";
        for (int length = 0; length <= text.length(); length++) {
            String cut = text.substring(0, length);
            boolean whole = cut.isEmpty() || cut.endsWith(";");
            String last = cut.substring(cut.lastIndexOf(';') + 1);
            boolean inWord = !last.contains(" ") && !"tower wire walker letter".contains(last + " ")
                    && !last.equals("letter");
            if (whole) {
                good("T: cut at " + length, cut, length == text.length() ? 1 : 0);
            } else if (inWord) {
                bad("T: cut within a word at " + length, cut, 1, length - last.length());
            } else {
                bad("T: cut at " + length, cut, 1, length);
                bad("T: cut at " + length + ", then blanks", cut + "   ", 1, length + 3);
            }
        }
    }

    /** The first from the left; of one the least. */
    private static void firstFromTheLeft() {
        bad("T: two faults of numbers", "tower 41;tower 42;", 2, 6);
        bad("T: 2 ahead of 1", "tower 41;?", 2, 6);
        bad("T: 1 ahead of 2", "tower ?;tower 41;", 1, 6);
        bad("T: 2 ahead of 3", Edge.TOWERS.substring(8) + "tower 41;tower 0;", 2, 62);
        bad("T: 3 ahead of 2", Edge.TOWERS + "tower 41;", 3, 64);
        bad("T: 3 ahead of 1", Edge.TOWERS + "tower ?", 3, 64);
        bad("T: B none such ahead of S none such", TWO + "wire 0 0 10;", 2, AT + 7);
        bad("T: B none such ahead of what can't stand", TWO + "wire 0 0 ?", 2, AT + 7);
    }

    /** Promise 3: the FAULT less 10 (all stays). */
    private static void allStays() {
        String[] wrong = {"tower", "tower 41;", Edge.TOWERS + "tower 1;", "tower 7;wire 0 0 1;", "?"};
        int[] kinds = {1, 2, 3, 2, 1};
        for (int k = 0; k < wrong.length; k++) {
            WirePost x = Edge.midway();
            Due.noSuch("3: a refused call", () -> x.reach(9));
            Due.same("3: with " + wrong[k], kinds[k] - 10, Due.city(x, wrong[k]));
            Edge.sameText("3: all stays with " + wrong[k], Edge.seen(Edge.midway()), Edge.seen(x));
            Due.same("3: the refused calls, too", 1, x.status(0));
            Due.same("3: what can be undone is undone", 1, x.undo());
            Due.same("3: and the image is there", 0, x.restore());
        }
    }

    /** Promise 3: no LAW, BOOK, IMAGES, nothing to undo; all as the terms' part 2 has it at first. */
    private static void allIsNew() {
        WirePost x = Edge.midway();
        Due.noSuch("3: a refused call", () -> x.reach(9));
        Due.illegal("3: and another one", () -> x.told(99));
        Due.same("3: the same city once more", 3, Due.city(x, Edge.CITY));
        Edge.sameText("3: as a new one", Edge.seen(Due.of(Edge.CITY)), Edge.seen(x));
        Due.same("3: without a law", 10, x.would(3, 9, 3, 1, 2, 9, 1, 9, 9));
        Due.same("3: nothing to undo", -1, x.undo());
        Due.same("3: no image", -1, x.restore());
        Due.same("37: the refused calls stay", 1, x.status(0));
        Due.same("37: those of the other reason, too", 1, x.status(1));
        WirePost y = Edge.midway();
        Due.same("3: a city of no bytes is one, too", 0, y.city(0));
        Edge.sameText("3: as a new object", Edge.seen(new WirePost()), Edge.seen(y));
    }

    /** Nothing of a fuller city, nor of what was asked there, is left in a smaller one. */
    private static void smallerBehindTheFullest() {
        String full = Edge.TOWERS + Edge.WIRES + "walker 7 0 6;".repeat(6) + "letter 7 7 0 1;".repeat(8);
        for (String small : new String[] {"tower 5;letter 0 0 2 3;", "tower 5;tower 2;wire 1 0 3;walker 1 9 6;"
                + "letter 0 1 2 3;letter 1 1 0 9;", "tower 0;tower 0;tower 0;walker 2 0 0;letter 2 2 0 1;", ""}) {
            WirePost x = Due.of(full);
            Due.work(x, "go 0 0;go 0 1;go 0 2;");
            Due.book(x, "0 1;11 1;");
            Due.same("27: asked of the fullest", 6, x.match());
            x.season(1, 1, 96, 0);
            Due.city(x, small);
            Edge.sameText("3: nothing of it is left in " + small, Edge.seen(Due.of(small)), Edge.seen(x));
            Edge.sameText("3: nor in answers of " + small, Edge.answers(Due.of(small)), Edge.answers(x));
        }
    }
}
