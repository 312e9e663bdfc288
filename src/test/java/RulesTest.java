import java.lang.management.ManagementFactory;
import java.lang.reflect.Constructor;
import java.lang.reflect.Field;
import java.lang.reflect.Method;
import java.lang.reflect.Modifier;
import java.nio.file.Files;
import java.nio.file.Path;
import java.util.ArrayList;
import java.util.List;
import java.util.Map;
import java.util.Set;
import java.util.TreeMap;
import java.util.TreeSet;
import java.util.regex.Matcher;
import java.util.regex.Pattern;

/** The face as the document has it, and those rules of LANGUAGE.md that a machine can see. */
public final class RulesTest {
    private static final String SOURCE = "src/main/java/BottledViews.java";
    private static final String[] FACE = {"land(int,int,int)", "ofPlace(int,int)", "village(int)", "moves(int,int)",
        "at(int)", "fill(int,int,int,int)", "ofBottle(int,int)", "become(int,int)", "as(int,int)", "open(int)",
        "feed(long,int)", "text(int)", "law(int,int,int,int)", "days(int)", "loose(int)", "view(int,int,int)",
        "again(int,int)", "best(int)", "tower(int,int)", "mutual()", "unseen()", "cover(int)", "keeps(int)",
        "blend(int,int)", "thief(int)", "both()", "seed(int)", "voice(int,int,int)", "trace(int)", "sheet(int,int,int)",
        "put(int,int,int)", "move(int,int,int,int,int)", "heights(int)", "judge(int)", "image()", "restore()",
        "tell(int)", "check()", "count(int)", "told(int)"};

    public static void main(String[] args) throws Exception {
        face();
        classes();
        words();
        lengths();
        depths();
        room();
        Due.end();
    }

    private static void face() {
        Class<?> c = BottledViews.class;
        Due.holds("public and final", Modifier.isPublic(c.getModifiers()) && Modifier.isFinal(c.getModifiers()));
        TreeSet<String> want = new TreeSet<>(List.of(FACE));
        TreeSet<String> got = new TreeSet<>();
        for (Method m : c.getDeclaredMethods()) {
            if (!Modifier.isPrivate(m.getModifiers())) {
                StringBuilder row = new StringBuilder();
                for (Class<?> p : m.getParameterTypes()) {
                    row.append(row.length() > 0 ? "," : "").append(p.getName());
                }
                got.add(m.getName() + "(" + row + ")");
                boolean plain = Modifier.isPublic(m.getModifiers()) && !Modifier.isStatic(m.getModifiers());
                Due.holds(m + " is of the face", plain && m.getReturnType() == int.class);
            }
        }
        Due.holds("the face: " + got, got.equals(want));
        Constructor<?>[] made = c.getDeclaredConstructors();
        Due.holds("one constructor", made.length == 1 && made[0].getParameterCount() == 0
            && Modifier.isPublic(made[0].getModifiers()));
        for (Field f : c.getDeclaredFields()) {
            Due.holds(f + " is private", Modifier.isPrivate(f.getModifiers()));
        }
    }

    private static List<Class<?>> allClasses() {
        List<Class<?>> all = new ArrayList<>(List.of(BottledViews.class.getDeclaredClasses()));
        all.add(BottledViews.class);
        return all;
    }

    private static void classes() {
        TreeSet<String> faceNames = new TreeSet<>();
        for (String row : FACE) {
            faceNames.add(row.substring(0, row.indexOf('(')));
        }
        Due.holds("at most twelve classes", allClasses().size() <= 12);
        for (Class<?> c : allClasses()) {
            if (c != BottledViews.class) {
                Due.holds(c + " is static", Modifier.isStatic(c.getModifiers()) && !Modifier.isPublic(c.getModifiers()));
            }
            int fields = 0;
            for (Field f : c.getDeclaredFields()) {
                boolean isStatic = Modifier.isStatic(f.getModifiers());
                fields += isStatic ? 0 : 1;
                Due.holds(f + " is final if static", !isStatic || Modifier.isFinal(f.getModifiers()));
            }
            Due.holds(c + " has at most twenty fields", fields <= 20);
            for (Method m : c.getDeclaredMethods()) {
                Due.holds(m + " takes at most seven", m.getParameterCount() <= 7);
                boolean own = c == BottledViews.class && Modifier.isPublic(m.getModifiers());
                Due.holds(m + " has a name of its own", own || !faceNames.contains(m.getName()));
            }
        }
    }

    private static void words() throws Exception {
        String source = Files.readString(Path.of(SOURCE));
        String code = source.replaceAll("(?s)/\\*.*?\\*/", "").replaceAll("//[^\n]*", "");
        String[] never = {"throw", "throws", "try", "catch", "synchronized", "assert", "import", "package", "hashCode",
            "toString", "Object", "Random", "Exact", "lambda", "goto", "native"};
        for (String word : never) {
            Due.holds("without " + word, !Pattern.compile("\\b" + word + "\\b").matcher(code).find());
        }
        Due.holds("no lambda", !code.contains("->"));
        Due.holds("no method reference", !code.contains("::"));
        Due.holds("no text that is joined", !code.contains("\""));
    }

    /** A method runs from a line with four or eight blanks and a bracket to its closing one. */
    private static void lengths() throws Exception {
        List<String> lines = Files.readAllLines(Path.of(SOURCE));
        Pattern head = Pattern.compile("^( {4}| {8})[A-Za-z].*\\) \\{$");
        for (int i = 0; i < lines.size(); i++) {
            Matcher m = head.matcher(lines.get(i));
            if (m.find()) {
                int end = i;
                while (end < lines.size() && !lines.get(end).equals(m.group(1) + "}")) {
                    end++;
                }
                Due.holds("short: " + lines.get(i).trim() + " " + (end - i + 1), end - i + 1 <= 60);
            }
        }
    }

    /** Rule 11: calls that are no recursion go at most eight deep; methods that call one another are counted once each. */
    private static void depths() throws Exception {
        Map<String, Set<String>> calls = callsByMethod(Files.readAllLines(Path.of(SOURCE)));
        Due.holds("methods were found", calls.size() > FACE.length && calls.containsKey("readJoined"));
        for (String name : calls.keySet()) {
            int deep = depth(name, calls, new TreeSet<>());
            Due.holds(name + " goes at most eight deep: " + deep, deep <= 8);
        }
    }

    /** The longest row of calls in which no method comes twice. */
    private static int depth(String name, Map<String, Set<String>> calls, Set<String> open) {
        open.add(name);
        int most = 0;
        for (String next : calls.get(name)) {
            if (!open.contains(next)) {
                most = Math.max(most, depth(next, calls, open));
            }
        }
        open.remove(name);
        return 1 + most;
    }

    private static Map<String, Set<String>> callsByMethod(List<String> lines) {
        Map<String, StringBuilder> bodies = new TreeMap<>();
        Pattern head = Pattern.compile("^(?: {4}| {8})(?!if|while|for|switch)[A-Za-z].* (\\w+)\\(.*\\) \\{$");
        StringBuilder body = new StringBuilder();
        for (String line : lines) {
            Matcher m = head.matcher(line);
            if (m.find()) {
                body = new StringBuilder();
                Due.holds(m.group(1) + " is the name of one method", bodies.put(m.group(1), body) == null);
            } else {
                body.append(line).append('\n');
            }
        }
        Map<String, Set<String>> calls = new TreeMap<>();
        for (String name : bodies.keySet()) {
            Set<String> called = new TreeSet<>();
            Matcher m = Pattern.compile("\\b(\\w+)\\(").matcher(bodies.get(name));
            while (m.find()) {
                if (bodies.containsKey(m.group(1))) {
                    called.add(m.group(1));
                }
            }
            calls.put(name, called);
        }
        return calls;
    }

    /** All calls of a run live in one room, so calls make no objects at all. */
    private static void room() {
        com.sun.management.ThreadMXBean bean = (com.sun.management.ThreadMXBean) ManagementFactory.getThreadMXBean();
        long id = Thread.currentThread().getId();
        BottledViews x = Due.bowl(10);
        useAll(x);
        long before = bean.getThreadAllocatedBytes(id);
        for (int i = 0; i < 50; i++) {
            useAll(x);
        }
        long made = bean.getThreadAllocatedBytes(id) - before;
        Due.holds("calls make nothing, but made bytes: " + made, made < 4096);
    }

    private static void useAll(BottledViews x) {
        x.village(10);
        x.image();
        for (int i = 0; i < 8; i++) {
            x.fill(10 * (i % 7) + i, 0, 1, 1 << (11 + i));
        }
        x.feed(0x2B6B2A31L, 4);
        x.text(1);
        x.feed(0x32392B68L, 4);
        x.text(0);
        x.law(0, 1, 2, 3);
        for (int i = 0; i < 8; i++) {
            x.ofBottle(i, 6 + i % 3);
            x.voice(i, 3, i);
        }
        x.cover(1 << 15);
        x.keeps(0);
        x.blend(0, 1);
        x.thief(1 << 15);
        x.best(0);
        x.tower(1, 15);
        x.again(0, 12);
        x.view(0, 1, 9);
        x.mutual();
        x.unseen();
        x.both();
        x.count(5);
        x.sheet(0, 8, 40);
        x.put(0, 1, 2);
        x.move(0, 0, 0, 1, 9);
        x.judge(0);
        x.tell(1);
        x.check();
        x.open(0);
        x.days(3);
        x.loose(3);
        x.trace(0);
        x.told(1);
        x.restore();
    }
}
