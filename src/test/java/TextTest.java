/** Promises 1 to 7: a new object, the tape, and what can stand in a CITY, LAW, WORK and BOOK. */
public final class TextTest {
    private static final String CITY = "tower 0;tower 4;tower 9;wire 0 1 1;wire 1 2 3;walker 0 8 6;walker 2 12 1;"
            + "letter 0 2 1 3;letter 1 2 5 2;";

    public static void main(String[] args) {
        newObject();
        tape();
        arguments();
        cities();
        cityKeeps();
        laws();
        works();
        books();
        Due.end();
    }

    private static void newObject() {
        WirePost x = new WirePost();
        for (int what = 0; what <= 10; what++) {
            int w = what;
            Due.is("new told " + what, 0, () -> x.told(w));
        }
        Due.same("new fault", -1, x.fault());
        Due.same("new tape", 0, x.count(1));
        Due.same("new images", 0, x.count(0));
        Due.same("new works", 0, x.count(2));
        Due.same("new status", 0, x.status(0) + x.status(1));
        Due.same("new law", 7, x.would(1, 5, 2, 3, 1, 4, 1, 2, 3));
        Due.noSuch("new tower", () -> x.tower(0, 0));
    }

    private static void tape() {
        WirePost x = new WirePost();
        Due.same("feed", 20, x.feed(0x746f7765, 0x72203132, 0x3b746f77, 0x65722035, 0x3b202020));
        Due.same("feed more", 40, x.feed(0, 0, 0, 0, 0));
        Due.same("count", 40, x.count(1));
        Due.same("city off the tape", 0, x.city(18));
        Due.same("towers", 2, x.told(0));
        Due.same("highest byte first", 12, x.tower(0, 0));
        Due.same("the tape is empty then", 0, x.count(1));
        for (int k = 1; k <= 30; k++) {
            Due.same("feed " + k, 20 * k, x.feed(-1, -1, -1, -1, -1));
        }
        Due.same("feed beyond 600", -1, x.feed(1, 1, 1, 1, 1));
        Due.same("600 are there", 600, x.count(1));
        Due.same("bytes of 255 can't stand", -9, x.city(600));
        Due.same("at 0", 0, x.fault());
        Due.same("a fault leaves the tape empty", 0, x.count(1));
        Due.same("feed again", 20, x.feed(1, 1, 1, 1, 1));
        WirePost y = new WirePost();
        StringBuilder long600 = new StringBuilder("tower 7;");
        while (long600.length() < 600) {
            long600.append(' ');
        }
        Due.same("600 bytes", 0, Due.city(y, long600.toString()));
        Due.same("one tower", 1, y.told(0));
    }

    private static void arguments() {
        WirePost x = new WirePost();
        Due.illegal("city -1", () -> x.city(-1));
        Due.illegal("city 1", () -> x.city(1));
        Due.put(x, "tower 1;");
        Due.illegal("city 21", () -> x.city(21));
        Due.same("the tape stays", 20, x.count(1));
        Due.same("city behind that", 0, x.city(8));
        for (int k = 0; k < 8; k++) {
            x.feed(0x20202020, 0x20202020, 0x20202020, 0x20202020, 0x20202020);
        }
        Due.illegal("law 151", () -> x.law(151));
        Due.illegal("work 151", () -> x.work(151));
        Due.illegal("book 101", () -> x.book(101));
        Due.illegal("law -1", () -> x.law(-1));
        Due.illegal("work -1", () -> x.work(Integer.MIN_VALUE));
        Due.illegal("book -1", () -> x.book(-1));
        Due.same("fault stays", -1, x.fault());
        Due.same("refused", 9, x.status(1));
        Due.same("tape", 160, x.count(1));
        Due.same("law of blanks", -9, x.law(150));
        Due.same("at the length", 150, x.fault());
        Due.illegal("law 1", () -> x.law(1));
        Due.same("fault stays, too", 150, x.fault());
        Due.put(x, " ".repeat(160));
        Due.same("work of 150 blanks", 0, x.work(150));
        Due.put(x, " ".repeat(160));
        Due.same("book of 100 blanks", 0, x.book(100));
        Due.illegal("the rest is gone", () -> x.book(1));
    }

    /** A CITY with a fault: its kind less 10, its place. */
    private static void cityFault(String text, int kind, int place) {
        WirePost x = new WirePost();
        Due.same("city " + text, kind - 10, Due.city(x, text));
        Due.same("fault of city " + text, place, x.fault());
        Due.same("nothing stays of " + text, 0, x.told(0));
    }

    private static void goodCity(String text, int letters) {
        WirePost x = new WirePost();
        Due.same("city " + text, letters, Due.city(x, text));
        Due.same("no fault in " + text, -1, x.fault());
    }

    private static void cities() {
        goodCity("", 0);
        goodCity("   ", 0);
        goodCity("tower0;tower00040;wire0 1 9;walker1 40 6;letter1 1 5 9;", 1);
        goodCity("  tower   0  ;  tower 0 ;wire  1 0 0  ;letter 0 1 0 1 ;  ", 1);
        String two = "tower 1;tower 2;";
        cityFault("tower 41;", 2, 6);
        cityFault("tower 99999999999999999999;", 2, 6);
        cityFault("tower 4294967296;", 2, 6);
        cityFault("tower -1;", 1, 6);
        cityFault("tower;", 1, 5);
        cityFault("tower ", 1, 6);
        cityFault("tower 1", 1, 7);
        cityFault("tower 1  ", 1, 9);
        cityFault("tower 1 2;", 1, 8);
        cityFault("tower 1;;", 1, 8);
        cityFault(" Tower 1;", 1, 1);
        cityFault("tow er 1;", 1, 0);
        cityFault("tower 1\t;", 1, 7);
        cityFault("towerx 1;", 1, 0);
        cityFault("cower 1;", 1, 0);
        cityFault("tower 1;tdwer 1;", 1, 8);
        cityFault("towez 1;", 1, 0);
        cityFault("\u00e9", 1, 0);
        cityFault("tower 1;\0", 1, 8);
        cityFault(two + "wire 0 2 0;", 2, 23);
        cityFault(two + "wire 2 0 0;", 2, 21);
        cityFault(two + "wire 1 1 0;", 2, 23);
        cityFault(two + "wire 0 1 10;", 2, 25);
        cityFault(two + "wire 01 2;", 2, 24);
        cityFault(two + "wire 01;", 1, 23);
        cityFault(two + "wire 0 1 2;wire 0 1 2;", 2, 34);
        cityFault(two + "wire 0 1 2;wire 1 0 2;", 2, 34);
        cityFault(two + "wire 0 1;", 1, 24);
        cityFault("wire 0 1 2;" + two, 2, 5);
        cityFault(two + "walker 2 0 0;", 2, 23);
        cityFault(two + "walker 0 41 0;", 2, 25);
        cityFault(two + "walker 0 40 7;", 2, 28);
        cityFault(two + "walker 0 40;", 1, 27);
        cityFault(two + "letter 2 0 0 1;", 2, 23);
        cityFault(two + "letter 0 2 0 1;", 2, 25);
        cityFault(two + "letter 0 0 6 1;", 2, 27);
        cityFault(two + "letter 0 0 5 0;", 2, 29);
        cityFault(two + "letter 0 0 5 10;", 2, 29);
        cityFault(two + "letter 0 0 5 9", 1, 30);
        cityFault("tower 0;".repeat(8) + " tower x", 3, 65);
        cityFault("tower 0;".repeat(8) + " towerx 1", 1, 65);
        cityFault("tower 0;" + "walker 0 0 0;".repeat(6) + "walker;", 3, 86);
        cityFault("tower 0;" + "letter 0 0 0 1;".repeat(8) + "letter", 3, 128);
        String wires = "tower 0;".repeat(8) + "wire 0 1 0;wire 0 2 0;wire 0 3 0;wire 0 4 0;wire 0 5 0;wire 0 6 0;"
                + "wire 0 7 0;wire 1 2 0;wire 1 3 0;wire 1 4 0;wire 1 5 0;wire 1 6 0;";
        goodCity(wires, 0);
        cityFault(wires + "wire 1 7 0;", 3, 196);
        String most = wires + "walker 0 0 0;".repeat(6) + "letter 0 0 0 1;".repeat(8);
        goodCity(most, 8);
    }

    private static void cityKeeps() {
        WirePost x = Due.of(CITY, "hum");
        Due.book(x, "0 3;");
        Due.work(x, "take 0 1;take 0 0;fog;");
        x.image();
        Due.same("a city with a fault", -9, Due.city(x, "tower 3;tower"));
        Due.same("keeps towers", 3, x.told(0));
        Due.same("keeps the law", 5, x.would(9, 0, 0, 0, 0, 5, 0, 0, 0));
        Due.same("keeps the book", 1, x.told(8));
        Due.same("keeps the fog", 1, x.told(5));
        Due.same("keeps refused steps", 1, x.told(9));
        Due.same("keeps works", 1, x.count(2));
        Due.same("keeps images", 1, x.count(0));
        Due.noSuch("a refused call", () -> x.reach(9));
        Due.same("a city anew", 2, Due.city(x, CITY));
        Due.same("no law", 18, x.would(9, 0, 0, 0, 0, 5, 0, 0, 0));
        Due.same("no book", 0, x.told(8));
        Due.same("no fog", 0, x.told(5));
        Due.same("no refused steps", 0, x.told(9));
        Due.same("no works", 0, x.count(2));
        Due.same("no images", 0, x.count(0));
        Due.same("status stays", 1, x.status(0));
        Due.same("nothing carried", 0, x.walker(0, 3));
        Due.same("all lie at F", 1, x.letter(1, 4));
        int[] told = {3, 2, 2, 2};
        for (int what = 0; what < 4; what++) {
            Due.same("told anew " + what, told[what], x.told(what));
        }
        Due.work(x, "again 2[");
        Due.same("a work behind one that ends too early", 1, Due.work(x, "fog;"));
    }

    private static void lawFault(String text, int kind, int place) {
        WirePost x = Due.of(CITY, "7");
        Due.same("law " + text, kind - 10, Due.law(x, text));
        Due.same("fault of law " + text, place, x.fault());
        Due.same("the law stays at " + text, 7, x.would(0, 0, 0, 0, 0, 0, 0, 0, 0));
        Due.same("the tape is empty", 0, x.count(1));
    }

    /** A LAW asked for slack 7, rise -11, load 13, kind 5, letters 2, hum 17, fog 1, resin 3, day 19. */
    private static void lawIs(String text, int want) {
        WirePost x = new WirePost();
        Due.same("law " + text, 1, Due.law(x, text));
        Due.same("no fault in law " + text, -1, x.fault());
        Due.same("lean by " + text, want, x.would(7, -11, 13, 5, 2, 17, 1, 3, 19));
    }

    private static void laws() {
        lawIs("slack", 7);
        lawIs("rise", -11);
        lawIs("load", 13);
        lawIs("kind", 5);
        lawIs("letters", 2);
        lawIs("hum", 17);
        lawIs("fog", 1);
        lawIs("resin", 3);
        lawIs("day", 19);
        lawIs("slack*2+load+kind", 32);
        lawIs("99", 99);
        lawIs("999", 99);
        lawIs("0-999", -99);
        lawIs("000000000098", 98);
        lawIs("20-3-4", 13);
        lawIs("2+3*4", 14);
        lawIs("(2+3)*4", 20);
        lawIs("40/4/5", 2);
        lawIs("7/2*2", 6);
        lawIs("rise/2", -5);
        lawIs("rise/0", 0);
        lawIs("5/(fog-1)+3", 3);
        lawIs("least[hum,kind]", 5);
        lawIs("most[hum,kind]", 17);
        lawIs(" most [ least[ 1 , 2 ] , 0 - 4 ] ", 1);
        lawIs("999*999*999*999/999/999/999", 0);
        lawIs("999*999*999/999/999/999", 1);
        lawIs("999*999*999*3/999/999/999", -1);
        lawIs("(0-128*256*256*256)/(0-1)/256/256/256", -99);
        lawIs("((((((1))))))+((((((1))))))", 2);
        lawIs("1+1*least[1,1+1*least[1,1+1*least[1,1+1*least[1,1+1*least[1,1+1*least[9,1+1*1]]]]]]", 2);
        lawIs("1-2*most[3,4-5*most[6,7-8*most[9,9-8*most[7,6-5*most[4,3-2*most[1,2-3*4]]]]]]", -5);
        lawIs("1+1*most[0,1+1*most[0,1+1*most[0,1+1*most[0,1+1*most[0,1+1*most[0,1+1*5]]]]]]", 12);
        lawFault("", 1, 0);
        lawFault("  ", 1, 2);
        lawFault("1000", 2, 0);
        lawFault("1+ 1000", 2, 3);
        lawFault("1+", 1, 2);
        lawFault("-1", 1, 0);
        lawFault("1 2", 1, 2);
        lawFault("1+*2", 1, 2);
        lawFault("(1", 1, 2);
        lawFault("(1]", 1, 2);
        lawFault("1)", 1, 1);
        lawFault("()", 1, 1);
        lawFault("hums", 1, 0);
        lawFault("slack slack", 1, 6);
        lawFault("least(1,2)", 1, 5);
        lawFault("least[1]", 1, 7);
        lawFault("least[1,2", 1, 9);
        lawFault("least[1,2)", 1, 9);
        lawFault("most[1,2,3]", 1, 8);
        lawFault("least", 1, 5);
        lawFault("1;", 1, 1);
        lawFault("1[", 1, 1);
        lawFault("again", 1, 0);
        lawFault("(((((((", 3, 6);
        lawFault("((((((1)))))) + ((((((( 1", 3, 22);
        lawFault("((((((least[1,2]))))))", 3, 6);
        lawFault("((((((most x", 3, 6);
        lawFault("((((((mos x", 1, 6);
        lawFault("least[1,least[1,least[1,least[1,least[1,least[1, (", 3, 49);
        lawIs("least[least[least[least[least[least[6,7],7],7],7],7],7]", 6);
        lawFault("least[least[least[least[least[least[ most[", 3, 37);
    }

    private static void workFault(String text, int kind, int place) {
        WirePost x = Due.of(CITY);
        Due.same("work " + text, kind - 10, Due.work(x, text));
        Due.same("fault of work " + text, place, x.fault());
        Due.same("none is done of " + text, 0, x.told(5) + x.told(4) + x.count(2));
        Due.same("the tape is empty", 0, x.count(1));
    }

    private static void works() {
        workFault("fog;x", 1, 4);
        workFault("fog", 1, 3);
        workFault("fog 1;", 1, 4);
        workFault("fog;;", 1, 4);
        workFault("fogs;", 1, 0);
        workFault("fog; ]", 1, 5);
        workFault("take 2 0;", 2, 5);
        workFault("take 0 2;", 2, 7);
        workFault("take 0;", 1, 6);
        workFault("take;", 1, 4);
        workFault("give 2 0;", 2, 5);
        workFault("give 0 2;", 2, 7);
        workFault("go 2 0;", 2, 3);
        workFault("go 0 3;", 2, 5);
        workFault("slack 2 0;", 2, 6);
        workFault("slack 0 10;", 2, 8);
        workFault("resin 2;", 2, 6);
        workFault("resin 1 1;", 1, 8);
        workFault("night 1;", 1, 6);
        workFault("again 31[];", 2, 6);
        workFault("again [];", 1, 6);
        workFault("again 2 fog;", 1, 8);
        workFault("again 2[fog];", 1, 11);
        workFault("again 2[fog;]", 1, 13);
        workFault("again 2[fog;", 1, 12);
        workFault("again 2[fog; ", 1, 13);
        workFault("again 2[fog;];]", 1, 14);
        workFault("fog;night;again 0[go 0 3;];", 2, 23);
        String six = "again 1[".repeat(6);
        workFault(six + "again 1[", 3, 48);
        workFault(six + "again x", 3, 48);
        workFault(six + "agains 1[", 1, 48);
        WirePost x = Due.of(CITY);
        Due.same("six open", 2, Due.work(x, six + "fog;" + "];".repeat(6) + six + "fog;" + "];".repeat(6)));
        Due.same("blanks", 3, Due.work(x, "  again  1  [ fog ; night ; ] ; fog ;  "));
        Due.same("no blanks", 1, Due.work(x, "take0 0;"));
        Due.same("0 times", 0, Due.work(x, "again 0[fog;];again 30[];"));
        Due.same("no fault", -1, x.fault());
    }

    private static void bookFault(String text, int kind, int place) {
        WirePost x = Due.of(CITY);
        Due.book(x, "1 5;");
        Due.same("book " + text, kind - 10, Due.book(x, text));
        Due.same("fault of book " + text, place, x.fault());
        Due.same("the book stays", 1, x.told(8));
        Due.same("the tape is empty", 0, x.count(1));
    }

    private static void books() {
        bookFault("2 1;", 2, 0);
        bookFault("0 100;", 2, 2);
        bookFault("0 1;0 1;", 2, 4);
        bookFault("0 1;1 1; 0 x", 2, 9);
        bookFault("0;", 1, 1);
        bookFault("0 1", 1, 3);
        bookFault("0 1 2;", 1, 4);
        bookFault(";", 1, 0);
        bookFault("wire", 1, 0);
        WirePost x = Due.of(CITY);
        Due.same("two lines", 2, Due.book(x, " 1 99 ;0 0; "));
        Due.same("told", 2, x.told(8));
        Due.same("no lines", 0, Due.book(x, ""));
        Due.same("told", 0, x.told(8));
        String all = "0 1;1 1;2 1;3 1;4 1;5 1;6 1;7 1;8 1;9 1;10 1;11 1;";
        WirePost y = Due.of("tower 0;".repeat(8) + "wire 0 1 0;wire 0 2 0;wire 0 3 0;wire 0 4 0;wire 0 5 0;wire 0 6 0;"
                + "wire 0 7 0;wire 1 2 0;wire 1 3 0;wire 1 4 0;wire 1 5 0;wire 1 6 0;walker 0 0 0;");
        Due.same("twelve lines", 12, Due.book(y, all));
        Due.same("all wires are in lines", -1, y.look(0, 0));
        Due.same("a thirteenth, an E twice, too", -8, Due.book(y, all + "3 1;"));
        Due.same("at its E", 50, y.fault());
        Due.same("a thirteenth, none such, too", -8, Due.book(y, all + "12 1;"));
        Due.same("what can't stand there", -9, Due.book(y, all + "x"));
        WirePost z = new WirePost();
        Due.same("no wires", -8, Due.book(z, "0 0;"));
    }
}
