import java.io.IOException;
import java.lang.management.ManagementFactory;
import java.lang.reflect.Field;
import java.lang.reflect.Method;
import java.lang.reflect.Modifier;
import java.nio.file.Files;
import java.nio.file.Path;
import java.util.List;
import java.util.Set;
import java.util.TreeSet;
import java.util.regex.Matcher;
import java.util.regex.Pattern;

/** What can be seen of the rules in LANGUAGE.md: the face, the forms of the source, and that calls make next to nothing. */
public final class LanguageTest {
    private static final Set<String> FACE = new TreeSet<>(List.of("feed", "end", "burgh", "fault", "clock", "wrong",
            "master", "meet", "now", "set", "stop", "start", "move", "minutes", "undo", "comes", "all", "missed",
            "caught", "plan", "time", "timeFirst", "look", "alike", "tend", "worst", "latest", "latestBy", "mean",
            "face", "byteAt", "drawn", "odds", "book", "told", "sentence", "said", "image", "restore", "count"));
    private static final String[] FORBIDDEN = {"->", "::", "\" +", "+ \"", "Exact", "catch", "finally", "synchronized",
        "assert ", "lambda", "static {", "System.out", "random", "Random", "Thread", "instanceof", "goto"};
    private static int wrong = 0;

    private static void due(String what, boolean holds) {
        if (!holds) {
            wrong++;
            System.out.println("LANGUAGE.md: " + what);
        }
    }

    public static void main(String[] args) throws IOException {
        face();
        classesInside();
        source(Files.readString(Path.of("src/main/java/LateMasters.java")));
        room();
        if (wrong > 0) {
            System.exit(1);
        }
    }

    private static void face() {
        Set<String> found = new TreeSet<>();
        for (Method m : LateMasters.class.getDeclaredMethods()) {
            if (m.isSynthetic()) {
                continue;
            }
            if (Modifier.isPublic(m.getModifiers())) {
                found.add(m.getName());
            } else {
                due(m + " is not private", Modifier.isPrivate(m.getModifiers()));
                due(m + " has a public one's name", !FACE.contains(m.getName()));
            }
        }
        due("the face is " + found, found.equals(FACE));
        for (Field f : LateMasters.class.getDeclaredFields()) {
            boolean fine = f.getName().equals("NONE") ? Modifier.isPublic(f.getModifiers())
                    : Modifier.isPrivate(f.getModifiers());
            due(f + " is seen from outside", fine);
        }
    }

    private static void classesInside() {
        Class<?>[] inside = LateMasters.class.getDeclaredClasses();
        due("there are more than twelve classes", inside.length < 12);
        for (Class<?> c : inside) {
            due(c + " is not static and private", Modifier.isStatic(c.getModifiers())
                    && Modifier.isPrivate(c.getModifiers()));
            int fields = 0;
            for (Field f : c.getDeclaredFields()) {
                fields += Modifier.isStatic(f.getModifiers()) ? 0 : 1;
                due(f + " is static, not final", !Modifier.isStatic(f.getModifiers())
                        || Modifier.isFinal(f.getModifiers()));
            }
            due(c + " has " + fields + " fields", fields <= 20);
            for (Method m : c.getDeclaredMethods()) {
                due(m + " has a public one's name", !FACE.contains(m.getName()));
                due(m + " has many parameters", m.getParameterCount() <= 7);
            }
        }
    }

    private static void source(String text) {
        for (String word : FORBIDDEN) {
            due("the source has " + word, !text.contains(word));
        }
        Matcher imports = Pattern.compile("import ([^;]*);").matcher(text);
        while (imports.find()) {
            due("import " + imports.group(1), Set.of("java.util.Arrays", "java.util.NoSuchElementException")
                    .contains(imports.group(1)));
        }
        String[] lines = text.split("\n");
        int from = 0;
        String indent = "";
        for (int i = 0; i < lines.length; i++) {
            if (lines[i].matches(" {4,8}[a-z].*\\).* \\{")) {
                from = i;
                indent = lines[i].replaceAll("\\S.*", "");
            } else if (lines[i].equals(indent + "}")) {
                due("a method of " + (i - from) + " lines: " + lines[from].trim(), i - from <= 60);
            }
        }
    }

    /** One object and its dearest calls must leave room for many such runs. */
    private static void room() {
        com.sun.management.ThreadMXBean bean = (com.sun.management.ThreadMXBean) ManagementFactory.getThreadMXBean();
        long thread = Thread.currentThread().getId();
        dearCalls(new LateMasters());
        long start = bean.getThreadAllocatedBytes(thread);
        LateMasters x = new LateMasters();
        long made = bean.getThreadAllocatedBytes(thread);
        dearCalls(x);
        long called = bean.getThreadAllocatedBytes(thread);
        due("an object takes " + (made - start) + " bytes", made - start < 100_000);
        due("its calls take " + (called - made) + " bytes", called - made < 20_000);
    }

    private static void dearCalls(LateMasters x) {
        Feeder.burgh(x, "clock a 0 fast 3 gains 1;clock b 5 loses 9;clock c 9;master m 3 5 a;master n 0 9 b;meet e 99;"
                + "meet f 300;comes m e;comes n e;comes n f;comes m f;");
        for (int i = 0; i < 60; i++) {
            x.feed(0, 0, 0, 0, 0);
            x.end(3);
            x.time();
            x.alike();
            x.comes(0, 0);
            x.plan(1, 240);
            x.odds(0, 20, i);
            x.face(1);
            x.book(1);
            x.sentence();
            x.minutes(3);
            x.stop(i % 3);
            x.image(i & 1);
            x.restore(i & 1);
        }
    }
}
