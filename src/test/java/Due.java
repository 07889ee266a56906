import java.nio.charset.StandardCharsets;
import java.util.NoSuchElementException;
import java.util.function.LongSupplier;

/** What the tests share: texts put on the tape, and calls held against the answers that are due. */
final class Due {
    /** Stand for a thrown exception where an answer is told. */
    static final long NO_SUCH = Long.MIN_VALUE;
    static final long ILLEGAL = Long.MIN_VALUE + 1;
    static final long OTHER = Long.MIN_VALUE + 2;

    private static int wrong = 0;
    private static int asked = 0;

    private Due() {
    }

    static void is(String call, long want, LongSupplier got) {
        same(call, want, answer(got));
    }

    static void same(String call, long want, long got) {
        asked++;
        if (got != want) {
            wrong++;
            if (wrong <= 40) {
                System.out.println(call + " answered " + told(got) + ", due is " + told(want));
            }
        }
    }

    static void noSuch(String call, LongSupplier got) {
        is(call, NO_SUCH, got);
    }

    static void illegal(String call, LongSupplier got) {
        is(call, ILLEGAL, got);
    }

    static long answer(LongSupplier got) {
        try {
            return got.getAsLong();
        } catch (NoSuchElementException e) {
            return e.getClass() == NoSuchElementException.class ? NO_SUCH : other(e);
        } catch (IllegalArgumentException e) {
            return e.getClass() == IllegalArgumentException.class ? ILLEGAL : other(e);
        } catch (RuntimeException e) {
            return other(e);
        }
    }

    private static long other(RuntimeException e) {
        System.out.println("thrown: " + e);
        return OTHER;
    }

    private static String told(long answer) {
        if (answer == NO_SUCH) {
            return "throws.NoSuchElementException";
        }
        if (answer == ILLEGAL) {
            return "throws.IllegalArgumentException";
        }
        return answer == OTHER ? "throws another exception" : Long.toString(answer);
    }

    static void end() {
        System.out.println(asked + " answers, " + wrong + " wrong");
        System.exit(wrong == 0 && asked > 0 ? 0 : 1);
    }

    /** Puts a text on the tape, the last twenty bytes filled up by 0; its length. */
    static int put(WirePost x, String text) {
        byte[] bytes = text.getBytes(StandardCharsets.ISO_8859_1);
        for (int at = 0; at < bytes.length; at += 20) {
            int[] five = new int[5];
            for (int k = 0; k < 20; k++) {
                int b = at + k < bytes.length ? bytes[at + k] & 255 : 0;
                five[k / 4] = five[k / 4] << 8 | b;
            }
            x.feed(five[0], five[1], five[2], five[3], five[4]);
        }
        return bytes.length;
    }

    static int city(WirePost x, String text) {
        return x.city(put(x, text));
    }

    static int law(WirePost x, String text) {
        return x.law(put(x, text));
    }

    static int work(WirePost x, String text) {
        return x.work(put(x, text));
    }

    static int book(WirePost x, String text) {
        return x.book(put(x, text));
    }

    static WirePost of(String city) {
        WirePost x = new WirePost();
        city(x, city);
        same("fault of " + city, -1, x.fault());
        return x;
    }

    static WirePost of(String city, String law) {
        WirePost x = of(city);
        law(x, law);
        same("fault of " + law, -1, x.fault());
        return x;
    }
}
