import java.util.function.Supplier;
import java.util.function.ToLongFunction;

/**
 * What the tests of edges share: all that can be seen of an object, and calls that must leave it as it was.
 * Objects are made anew for each call, so that none is used for more than the document's 512 calls.
 */
final class Edge {
    static final int MIN = Integer.MIN_VALUE;
    static final int MAX = Integer.MAX_VALUE;

    static final String CITY = "tower 0;tower 4;tower 9;tower 2;wire 0 1 1;wire 1 2 3;wire 2 3 0;walker 0 8 6;"
            + "walker 2 12 1;walker 1 0 6;letter 0 2 1 3;letter 1 1 5 2;letter 0 1 2 1;";
    static final String LAW = "slack + load + kind + rise/4 + hum*2 + fog - resin + day";

    /** Twelve wires, six walkers, eight letters, eight towers: as many as there can be of each. */
    static final String TOWERS = "tower 0;".repeat(8);
    static final String WIRES = "wire 0 1 0;wire 0 2 0;wire 0 3 0;wire 0 4 0;wire 0 5 0;wire 0 6 0;wire 0 7 0;"
            + "wire 1 2 0;wire 1 3 0;wire 1 4 0;wire 1 5 0;wire 1 6 0;";
    static final String WALKERS = "walker 0 0 0;".repeat(6);
    static final String LETTERS = "letter 0 0 0 1;".repeat(8);

    private Edge() {
    }

    /** A post in the middle of things: one fallen, one carrying, one letter there, fog, hum, an image. */
    static WirePost midway() {
        WirePost x = Due.of(CITY, LAW);
        Due.work(x, "take 2 1;give 2 1;night;");
        x.image();
        Due.work(x, "go 2 0;resin 0;fog;take 0 0;go 0 3;go 1 3;");
        Due.book(x, "1 7;");
        return x;
    }

    /** The same with twenty bytes on its tape, a city of one tower. */
    static WirePost busy() {
        WirePost x = midway();
        x.feed(0x746f7765, 0x7220373b, 0x20202020, 0x20202020, 0x20202020);
        return x;
    }

    /** All that the post itself answers of its state; not the tape, nor the latest fault, nor what was refused. */
    static String seen(WirePost x) {
        StringBuilder all = new StringBuilder();
        for (int what = 0; what <= 10; what++) {
            all.append(x.told(what)).append(' ');
        }
        row(all, "towers", x.told(0), 3, x::tower);
        row(all, "wires", x.told(1), 3, x::wire);
        row(all, "walkers", x.told(2), 6, x::walker);
        row(all, "letters", x.told(3), 6, x::letter);
        all.append("; law ").append(x.would(1, 2, 3, 4, 1, 5, 1, 6, 7)).append(' ');
        all.append(x.would(9, -40, 0, 5, 2, 8, 0, 1, 9)).append(' ').append(x.would(0, 8, 1, 0, 0, 0, 1, 0, 0));
        for (int walker = 0; walker < x.told(2); walker++) {
            all.append("; fits ").append(x.fits(walker, 0)).append(' ').append(x.look(walker, 1));
        }
        all.append("; kept ").append(x.count(0)).append(' ').append(x.count(2));
        return all.toString();
    }

    /** What seen tells, without the steps that the latest work refused. */
    static String unrefused(WirePost x) {
        String[] told = seen(x).split(" ", 11);
        told[9] = "-";
        return String.join(" ", told);
    }

    /** What is asked of a post, call by call; of a small city, since it takes many calls. */
    static String answers(WirePost x) {
        StringBuilder all = new StringBuilder("match ").append(x.match()).append(' ').append(x.parts(0)).append(' ');
        all.append(x.parts(1)).append(' ').append(x.bridges()).append(' ').append(x.frame(0)).append(' ');
        all.append(x.frame(1)).append(' ').append(x.loudest(0)).append(' ').append(x.season(3, 5, 96, 2)).append(' ');
        all.append(x.season(3, 5, 96, 0)).append(' ').append(x.span(3, 20, 5, 96, 2)).append("; walkers");
        for (int walker = 0; walker < x.told(2); walker++) {
            all.append(' ').append(x.reach(walker)).append(' ').append(x.meet(walker, 0, 0));
            for (int tower = 0; tower < x.told(0); tower++) {
                all.append(' ').append(x.way(walker, tower, 0)).append(' ').append(x.way(walker, tower, 1));
                all.append(' ').append(x.likely(walker, tower, 3, 0)).append(' ').append(x.between(tower, 0));
            }
        }
        all.append("; letters");
        for (int letter = 0; letter < x.told(3); letter++) {
            all.append(' ').append(x.send(letter, 0)).append(' ').append(x.send(letter, 1)).append(' ');
            all.append(x.matched(letter)).append(' ').append(x.share(letter, (1 << x.told(3)) - 1, 100));
        }
        return all.toString();
    }

    private interface Asked {
        int of(int element, int what);
    }

    private static void row(StringBuilder all, String name, int many, int most, Asked asked) {
        all.append("; ").append(name);
        for (int k = 0; k < many; k++) {
            for (int what = 0; what <= most; what++) {
                all.append(' ').append(asked.of(k, what));
            }
        }
    }

    static void sameText(String call, String want, String got) {
        if (!want.equals(got)) {
            System.out.println(call + ": " + got + "\n    due: " + want);
        }
        Due.same(call, 1, want.equals(got) ? 1 : 0);
    }

    /** A call of a busy post that throws: it is counted by its reason alone, and changes nothing at all. */
    private static void refused(String call, int reason, ToLongFunction<WirePost> asked) {
        WirePost x = busy();
        int tape = x.count(1);
        int fault = x.fault();
        Due.is(call, reason == 0 ? Due.NO_SUCH : Due.ILLEGAL, () -> asked.applyAsLong(x));
        Due.same(call + " counts once", 1, x.status(reason));
        Due.same(call + " counts by its reason alone", 0, x.status(1 - reason));
        Due.same(call + ": the tape", tape, x.count(1));
        Due.same(call + ": the fault", fault, x.fault());
        sameText(call + " changes nothing", seen(busy()), seen(x));
    }

    static void noSuch(String call, ToLongFunction<WirePost> asked) {
        refused(call, 0, asked);
    }

    static void illegal(String call, ToLongFunction<WirePost> asked) {
        refused(call, 1, asked);
    }

    /** A call that answers, and leaves all as it was. */
    static void asks(String call, Supplier<WirePost> made, ToLongFunction<WirePost> asked, long want) {
        WirePost x = made.get();
        int tape = x.count(1);
        int fault = x.fault();
        Due.is(call, want, () -> asked.applyAsLong(x));
        Due.same(call + " refuses nothing", 0, x.status(0) + x.status(1));
        Due.same(call + ": the tape", tape, x.count(1));
        Due.same(call + ": the fault", fault, x.fault());
        sameText(call + " changes nothing", seen(made.get()), seen(x));
    }

    /** Numbers that are none of 0 to most: the nearest ones, and those farthest off. */
    static int[] outside(int least, int most) {
        return new int[] {least - 1, most + 1, MIN, MAX};
    }
}
