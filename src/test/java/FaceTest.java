import java.io.IOException;
import java.lang.reflect.Field;
import java.lang.reflect.Method;
import java.lang.reflect.Modifier;
import java.nio.file.Files;
import java.nio.file.Path;
import java.util.Arrays;
import java.util.TreeSet;

/** The public face, and those rules of LANGUAGE.md that a look at the source can hold. */
public final class FaceTest {
    private static final String FACE = "feed/5 city/1 law/1 work/1 book/1 fault/0 undo/0 told/1 tower/2 wire/2"
            + " walker/2 letter/2 between/2 lean/3 would/9 over/3 reach/1 way/3 send/2 meet/3 parts/1 bridges/0"
            + " frame/1 fits/2 look/2 match/0 matched/1 likely/4 middle/4 share/3 loudest/1 season/4 span/5 image/0"
            + " restore/0 status/1 count/1";

    public static void main(String[] args) throws IOException {
        Class<?> c = WirePost.class;
        Due.same("public and final", Modifier.PUBLIC | Modifier.FINAL, c.getModifiers());
        Due.same("NONE", -1, WirePost.NONE);
        Due.same("constructors", 1, c.getConstructors().length);
        methods(c);
        for (Field f : c.getDeclaredFields()) {
            boolean named = f.getName().equals("NONE");
            Due.same("private field " + f.getName(), named ? 0 : 1, Modifier.isPrivate(f.getModifiers()) ? 1 : 0);
            boolean still = !Modifier.isStatic(f.getModifiers()) || Modifier.isFinal(f.getModifiers());
            Due.same("static is final: " + f.getName(), 1, still ? 1 : 0);
        }
        source();
        Due.end();
    }

    private static void methods(Class<?> c) {
        TreeSet<String> want = new TreeSet<>(Arrays.asList(FACE.split(" ")));
        TreeSet<String> got = new TreeSet<>();
        TreeSet<String> hidden = new TreeSet<>();
        for (Method m : c.getDeclaredMethods()) {
            if (Modifier.isPublic(m.getModifiers())) {
                got.add(m.getName() + "/" + m.getParameterCount());
                String type = m.getName().equals("over") ? "boolean" : m.getName().equals("likely") ? "long" : "int";
                Due.same("type of " + m.getName(), 1, m.getReturnType().getName().equals(type) ? 1 : 0);
            } else {
                Due.same("private " + m.getName(), 1, Modifier.isPrivate(m.getModifiers()) ? 1 : 0);
                hidden.add(m.getName());
            }
        }
        for (Class<?> inner : c.getDeclaredClasses()) {
            Due.same("static " + inner, 1, Modifier.isStatic(inner.getModifiers()) ? 1 : 0);
            for (Method m : inner.getDeclaredMethods()) {
                hidden.add(m.getName());
                Due.same("parameters of " + m, 1, m.getParameterCount() <= 7 ? 1 : 0);
            }
        }
        Due.same("methods " + got, 1, want.equals(got) ? 1 : 0);
        for (String name : want) {
            Due.same("not hidden too: " + name, 0, hidden.contains(name.split("/")[0]) ? 1 : 0);
        }
    }

    private static void source() throws IOException {
        String text = Files.readString(Path.of("src/main/java/WirePost.java"));
        for (String ban : new String[] {"->", "::", "catch", "finally", "synchronized", "assert ", "Exact(", "package ",
            "System.out", "String.valueOf", "hashCode", "static {", "Math.random", "interface "}) {
            Due.same("source has " + ban, 0, text.contains(ban) ? 1 : 0);
        }
        for (String line : text.split("\n")) {
            boolean known = !line.startsWith("import ") || line.equals("import java.util.Arrays;")
                    || line.equals("import java.util.NoSuchElementException;");
            Due.same("import: " + line, 1, known ? 1 : 0);
        }
        Due.same("signs to 127", 0, text.chars().filter(sign -> sign > 127).count());
    }
}
