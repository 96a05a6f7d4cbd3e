import java.io.IOException;
import java.lang.reflect.Field;
import java.lang.reflect.Member;
import java.lang.reflect.Method;
import java.lang.reflect.Modifier;
import java.nio.file.Files;
import java.nio.file.Path;
import java.util.Arrays;
import java.util.TreeSet;
import java.util.regex.Matcher;
import java.util.regex.Pattern;
import java.util.stream.Collectors;
import java.util.stream.Stream;

/** The face is the document's and no more; the source keeps to the rules of LANGUAGE.md that a glance can tell. */
public final class FaceTest {
    private static final Checks CHECK = new Checks();

    public static void main(String[] args) throws IOException {
        publicFace();
        otherMembers();
        words();
        room();
        CHECK.end();
    }

    private static void publicFace() throws IOException {
        TreeSet<String> due = new TreeSet<>();
        Matcher m = Pattern.compile("    public ((?:int|long|boolean) \\w+\\(.*\\));")
                .matcher(Files.readString(Path.of("../shared/DOC.md")));
        while (m.find()) {
            due.add(m.group(1).replaceAll(" \\w+([,)])", "$1"));
        }
        TreeSet<String> there = new TreeSet<>();
        for (Method method : SilentTurn.class.getDeclaredMethods()) {
            if (!Modifier.isPrivate(method.getModifiers())) {
                there.add(method.getReturnType() + " " + method.getName() + Arrays.stream(method.getParameterTypes())
                        .map(Class::toString).collect(Collectors.joining(", ", "(", ")")));
            }
        }
        CHECK.due("61 calls", due.size(), 61);
        CHECK.due("the face: " + there, there.equals(due) ? 1 : 0, 1);
        CHECK.due("final", Modifier.isFinal(SilentTurn.class.getModifiers()) ? 1 : 0, 1);
        CHECK.due("constructors", SilentTurn.class.getDeclaredConstructors().length, 1);
        CHECK.due("public constructors", SilentTurn.class.getConstructors().length, 1);
    }

    private static void otherMembers() {
        for (Field field : SilentTurn.class.getDeclaredFields()) {
            boolean is = Modifier.isPrivate(field.getModifiers()) || field.getName().equals("NONE");
            CHECK.due("private " + field.getName(), is ? 1 : 0, 1);
        }
        TreeSet<String> faces = names(Arrays.stream(SilentTurn.class.getMethods()));
        Class<?>[] inside = SilentTurn.class.getDeclaredClasses();
        CHECK.due("at most twelve classes", inside.length <= 11 ? 1 : 0, 1);
        for (Class<?> own : inside) {
            CHECK.due("static " + own, Modifier.isStatic(own.getModifiers()) ? 1 : 0, 1);
            TreeSet<String> shared = names(Arrays.stream(own.getDeclaredMethods()));
            shared.retainAll(faces);
            CHECK.due("names of the face in " + own + ": " + shared, shared.size(), 0);
        }
        for (Class<?> own : Stream.concat(Stream.of(SilentTurn.class), Arrays.stream(inside)).toList()) {
            long fields = Arrays.stream(own.getDeclaredFields()).filter(f -> !Modifier.isStatic(f.getModifiers())).count();
            CHECK.due("twenty fields of " + own, fields <= 20 ? 1 : 0, 1);
        }
    }

    private static TreeSet<String> names(Stream<? extends Member> members) {
        return members.map(Member::getName).collect(Collectors.toCollection(TreeSet::new));
    }

    private static void words() throws IOException {
        String source = Files.readString(Path.of("src/main/java/SilentTurn.java"))
                .replaceAll("(?s)/\\*.*?\\*/", "").replaceAll("//.*", "").replaceAll("\".*\"", "\"\"");
        for (String word : new String[] {"throw", "try", "catch", "synchronized", "assert", "\\w*Exception", "\\w*Exact",
            "null", "double", "float", "package", "protected"}) {
            CHECK.due("the word " + word, Pattern.compile("\\b" + word + "\\b").matcher(source).find() ? 1 : 0, 0);
        }
        CHECK.due("lambdas", source.contains("->") || source.contains("::") ? 1 : 0, 0);
    }

    // All that a call needs is made with the object: the dearest calls make nothing.
    private static void room() {
        SilentTurn x = Checks.made(Checks.SMALL);
        x.tray(0, 0, 4);
        var counter = (com.sun.management.ThreadMXBean) java.lang.management.ManagementFactory.getThreadMXBean();
        dearCalls(x);
        counter.getCurrentThreadAllocatedBytes();
        long before = counter.getCurrentThreadAllocatedBytes();
        for (int i = 0; i < 1000; i++) {
            dearCalls(x);
        }
        long made = counter.getCurrentThreadAllocatedBytes() - before;
        CHECK.due("bytes made by 1,000 rounds of calls: " + made, made < 20000 ? 1 : 0, 1);
    }

    private static void dearCalls(SilentTurn x) {
        x.mark();
        // minute 5;any;
        x.feed(0x6d696e75, 0x74652035, 0x3b616e79, 0x3b202020, 0x20202020);
        x.days(20);
        x.live(7);
        x.mean(3, 4);
        x.coughs(1);
        x.undo();
        x.shift(3);
        x.heard(0, 4);
        x.sure(0, 4, 2);
        x.fewestSet(20);
        x.talkAt(0, 2);
        x.ringAt(1);
        x.best(1);
        x.couples(7);
        x.pauseIn();
        x.tray(1, 0, 60);
        x.copyBreath(1);
        x.pour(1, 0, 1, 1, 50);
    }
}
