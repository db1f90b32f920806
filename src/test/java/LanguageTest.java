import java.lang.management.ManagementFactory;
import java.lang.reflect.Constructor;
import java.lang.reflect.Field;
import java.lang.reflect.Method;
import java.lang.reflect.Modifier;
import java.nio.file.Files;
import java.nio.file.Path;
import java.util.ArrayList;
import java.util.Arrays;
import java.util.Collections;
import java.util.List;
import java.util.TreeSet;
import java.util.regex.Matcher;
import java.util.regex.Pattern;

/** The rules of LANGUAGE.md that can be looked at from outside: the face, words that are ruled out, the room. */
public final class LanguageTest {
    private static final Checks CHECKS = new Checks();
    private static final String[] FACE = {
        "int open()", "boolean close(int)", "boolean move(int)", "boolean view(int,boolean)", "boolean shift(int)",
        "boolean send(int,int)", "boolean focus(int)", "boolean click(int,int)", "boolean lift(int,int,int,int,int)",
        "boolean sink(int)", "boolean layout(int)", "boolean shape(int,int)", "int rectangle(int,int,int,int)",
        "boolean rescreen()", "int undo()", "int redo()", "int workspace(int,int)", "int screen(int,int)",
        "int count(int)", "int row(int,int)", "int window(int,int)", "int place(int,int)", "int shown(int,int)",
        "int at(int,int)", "long sum()"};

    public static void main(String[] args) throws Exception {
        face();
        nestedClasses();
        words(args.length > 0 ? args[0] : "src/main/java/PaneDesk.java");
        room();
        CHECKS.end();
    }

    private static void dueNone(String what, Iterable<String> found) {
        for (String one : found) {
            CHECKS.due(what + ": " + one, true, false);
        }
    }

    private static void face() {
        CHECKS.topic("rule 1");
        List<String> seen = new ArrayList<>();
        List<String> stray = new ArrayList<>();
        for (Method m : PaneDesk.class.getDeclaredMethods()) {
            if (Modifier.isPublic(m.getModifiers())) {
                seen.add(m.toGenericString().replace("public ", "").replace("PaneDesk.", ""));
            } else if (!Modifier.isPrivate(m.getModifiers())) {
                stray.add(m.getName());
            }
        }
        for (Field f : PaneDesk.class.getDeclaredFields()) {
            boolean none = f.getName().equals("NONE");
            int wanted = none ? Modifier.PUBLIC | Modifier.STATIC | Modifier.FINAL : Modifier.PRIVATE;
            if ((f.getModifiers() & wanted) != wanted || Modifier.isStatic(f.getModifiers()) && !Modifier.isFinal(f.getModifiers())) {
                stray.add(f.getName());
            }
        }
        for (Constructor<?> c : PaneDesk.class.getDeclaredConstructors()) {
            if (!Modifier.isPublic(c.getModifiers()) || c.getParameterCount() != 0) {
                stray.add(c.toString());
            }
        }
        List<String> wanted = new ArrayList<>(Arrays.asList(FACE));
        Collections.sort(seen);
        Collections.sort(wanted);
        CHECKS.due("the public methods are " + seen, seen.equals(wanted), true);
        CHECKS.due("the class is public and final",
            (PaneDesk.class.getModifiers() & (Modifier.PUBLIC | Modifier.FINAL)) == (Modifier.PUBLIC | Modifier.FINAL), true);
        dueNone("a member beside the face", stray);
    }

    private static void nestedClasses() {
        CHECKS.topic("rules 1, 2 and 11");
        TreeSet<String> names = new TreeSet<>();
        for (String line : FACE) {
            names.add(line.substring(line.indexOf(' ') + 1, line.indexOf('(')));
        }
        List<String> stray = new ArrayList<>();
        Class<?>[] inside = PaneDesk.class.getDeclaredClasses();
        CHECKS.due("at most twelve classes", inside.length + 1 <= 12, true);
        for (Class<?> c : inside) {
            if (!Modifier.isStatic(c.getModifiers()) || c.getDeclaredFields().length > 20) {
                stray.add(c.getName());
            }
            for (Method m : c.getDeclaredMethods()) {
                if (names.contains(m.getName()) || m.getParameterCount() > 7) {
                    stray.add(m.toString());
                }
            }
        }
        dueNone("outside the rules", stray);
    }

    private static void words(String file) throws Exception {
        CHECKS.topic("rules 4, 6 and 13");
        String text = Files.readString(Path.of(file));
        String code = text.replaceAll("(?s)/\\*.*?\\*/", " ").replaceAll("//[^\n]*", " ");
        Matcher m = Pattern.compile("\\b(package|import|throw|throws|try|catch|synchronized|assert|Object|float|double|"
            + "hashCode|toString|equals|Random|currentTimeMillis|nanoTime|Thread|\\w+Exact)\\b|->|::").matcher(code);
        List<String> found = new ArrayList<>();
        while (m.find()) {
            found.add(m.group());
        }
        Matcher library = Pattern.compile("\\b(System|Math|Integer|Long|Arrays)\\.(\\w+)").matcher(code);
        TreeSet<String> allowed = new TreeSet<>(List.of("System.arraycopy", "Math.max", "Math.min", "Math.floorMod", "Long.bitCount"));
        while (library.find()) {
            if (!allowed.contains(library.group())) {
                found.add(library.group());
            }
        }
        dueNone("the program uses", found);
        CHECKS.due("characters 0 to 255 alone", text.chars().allMatch(c -> c < 256), true);
    }

    /** The room of one run is 7.3 million elements: one object's 512 calls, and many objects, stay far below it. */
    private static void room() {
        CHECKS.topic("the room");
        long start = allocated();
        events(new PaneDesk(), 512);
        CHECKS.due("512 events stay under 1 MB", allocated() - start < 1_000_000, true);
        start = allocated();
        for (int i = 0; i < 500; i++) {
            events(new PaneDesk(), 1);
        }
        CHECKS.due("500 objects stay under 10 MB", allocated() - start < 10_000_000, true);
    }

    private static void events(PaneDesk desk, int calls) {
        for (int i = 0; i < calls; i++) {
            if (i % 9 < 5) {
                desk.open();
            } else if (i % 9 < 7) {
                desk.view(i % 8, false);
            } else {
                desk.click(i, i);
            }
        }
    }

    private static long allocated() {
        com.sun.management.ThreadMXBean threads = (com.sun.management.ThreadMXBean) ManagementFactory.getThreadMXBean();
        return threads.getThreadAllocatedBytes(Thread.currentThread().getId());
    }
}
