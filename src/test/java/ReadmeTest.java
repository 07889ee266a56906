import java.io.IOException;
import java.nio.file.Files;
import java.nio.file.Path;
import java.util.function.LongSupplier;

/** The examples of README.md: each stands there with the answer that the class gives. */
public final class ReadmeTest {
    private static final String CITY = "tower 0;tower 4;tower 9; wire 0 1 2;wire 1 2 3;"
            + "walker 0 9 6;walker 2 12 1; letter 0 2 1 3;letter 2 0 5 2;";
    private static final String LAW = "slack * 2 + load + rise / 5 + fog * 3 - resin";
    private static final String WORK = "take 0 0;go 0 1;resin 0;go 0 2;give 0 0;fog;take 0 0;";

    private static String[] page;
    private static int at;

    public static void main(String[] args) throws IOException {
        String text = Files.readString(Path.of("README.md"));
        page = text.split("\n");
        WirePost post = new WirePost();
        asked(post);
        done(post);
        loops(post);
        for (java.lang.reflect.Method m : WirePost.class.getMethods()) {
            boolean own = m.getDeclaringClass() == WirePost.class;
            Due.same("README names " + m.getName(), 1, !own || text.contains("`" + m.getName() + "`") ? 1 : 0);
        }
        Due.end();
    }

    private static void asked(WirePost post) {
        line("walker 0 9 6;walker 2 12 1; letter 0 2 1 3;letter 2 0 5 2;\"));", 2, () -> post.city(put(post, CITY)));
        line("post.law(put(post, \"" + LAW + "\"));", 1, () -> post.law(put(post, LAW)));
        line("post.lean(0, 1, 0);", 7, () -> post.lean(0, 1, 0));
        line("post.over(0, 1, 0);", 1, () -> post.over(0, 1, 0) ? 1 : 0);
        line("post.way(0, 2, 0);", 2, () -> post.way(0, 2, 0));
        line("post.way(0, 2, 1);", 1, () -> post.way(0, 2, 1));
        line("post.send(0, 0);", 1, () -> post.send(0, 0));
        line("post.send(0, 1);", 4, () -> post.send(0, 1));
        line("post.match();", 2, post::match);
        line("post.likely(0, 2, 4, 0);", 3, () -> post.likely(0, 2, 4, 0));
        line("post.likely(0, 2, 4, 1);", 4, () -> post.likely(0, 2, 4, 1));
        line("post.frame(0);", 5, () -> post.frame(0));
    }

    private static void done(WirePost post) {
        line("post.work(put(post, \"" + WORK + "\"));", 6, () -> post.work(put(post, WORK)));
        line("post.told(9);", 1, () -> post.told(9));
        line("post.letter(0, 6);", 1, () -> post.letter(0, 6));
        line("post.walker(0, 0);", 2, () -> post.walker(0, 0));
        line("post.undo();", 0, post::undo);
        line("post.walker(0, 0);", 0, () -> post.walker(0, 0));
        line("post.book(put(post, \"0 7;\"));", 1, () -> post.book(put(post, "0 7;")));
        line("post.fits(0, 0);", 6, () -> post.fits(0, 0));
        line("post.fits(0, 1);", 3, () -> post.fits(0, 1));
        line("post.look(0, 0);", 1, () -> post.look(0, 0));
        line("post.work(put(post, \"go 0 7;\"));", -8, () -> post.work(put(post, "go 0 7;")));
        line("post.fault();", 5, post::fault);
        line("post.tower(3, 0);", Due.NO_SUCH, () -> post.tower(3, 0));
        line("post.status(0);", 1, () -> post.status(0));
    }

    private static void loops(WirePost post) {
        String work = "again 3[go 0 1;again 2[resin 0;];];";
        String law = "most[load, kind] * (slack + least[hum, 9])";
        Due.is(work, 7, () -> post.work(put(post, work)));
        Due.is(law, 1, () -> post.law(put(post, law)));
        String text = String.join("\n", page);
        Due.same("README has " + work, 1, text.contains("`" + work + "`") ? 1 : 0);
        Due.same("README has " + law, 1, text.contains("`" + law + "`") ? 1 : 0);
    }

    /** The call is due to answer so, and to stand on the page with that answer, behind the lines looked at before. */
    private static void line(String call, long want, LongSupplier got) {
        Due.is(call, want, got);
        while (at < page.length && !page[at].contains(call)) {
            at++;
        }
        String behind = at < page.length ? page[at].substring(page[at].indexOf(call) + call.length()).trim() : "";
        String answer = want == Due.NO_SUCH ? "throws NoSuchElementException" : Long.toString(want);
        boolean told = behind.matches("// " + answer + "(:.*)?") || want == 1 && behind.startsWith("// true");
        Due.same("README tells " + call + " with " + answer, 1, told ? 1 : 0);
        at++;
    }

    /** As README.md has it. */
    private static int put(WirePost post, String text) {
        for (int at = 0; at < text.length(); at += 20) {
            int[] five = new int[5];
            for (int k = 0; k < 20; k++) {
                five[k / 4] = five[k / 4] << 8 | (at + k < text.length() ? text.charAt(at + k) : 0);
            }
            post.feed(five[0], five[1], five[2], five[3], five[4]);
        }
        return text.length();
    }
}
