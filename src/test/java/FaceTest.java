import java.lang.reflect.Constructor;
import java.lang.reflect.Field;
import java.lang.reflect.Method;
import java.lang.reflect.Modifier;
import java.nio.file.Files;
import java.nio.file.Path;
import java.util.Set;
import java.util.TreeSet;
import java.util.regex.Matcher;
import java.util.regex.Pattern;

/** The class's face, and the rules of LANGUAGE.md that can be seen from outside. */
public final class FaceTest {
    private static final Set<String> FACE = Set.of(
            "int request(int,int,int,int)", "int tick()", "int arrive(int,int,boolean)",
            "boolean lose(int,int)", "int write(int)", "int copy()", "boolean fail(int,int)",
            "boolean repair(int,int)", "int answer(int,int)", "int pair(int,int)", "int part(int,int)",
            "int link(int,int,int)", "int disc(int,int,int)", "int record(int,int)");

    public static void main(String[] args) throws Exception {
        members();
        words();
        room();
        Checks.end("FaceTest");
    }

    private static void members() {
        Set<String> found = new TreeSet<>();
        Set<String> publicNames = new TreeSet<>();
        Set<String> privateNames = new TreeSet<>();
        for (Method method : MirrorPairs.class.getDeclaredMethods()) {
            if (Modifier.isPrivate(method.getModifiers())) {
                privateNames.add(method.getName());
                continue;
            }
            publicNames.add(method.getName());
            StringBuilder text = new StringBuilder();
            for (Class<?> type : method.getParameterTypes()) {
                text.append(text.length() == 0 ? "" : ",").append(type.getName());
            }
            found.add(method.getReturnType().getName() + " " + method.getName() + "(" + text + ")");
        }
        Checks.due("the methods " + found, found.equals(FACE), true);
        privateNames.retainAll(publicNames);
        Checks.due("private methods with a public name " + privateNames, privateNames.size(), 0);
        for (Field field : MirrorPairs.class.getDeclaredFields()) {
            boolean none = field.getName().equals("NONE");
            Checks.due("field " + field.getName() + " is private", Modifier.isPrivate(field.getModifiers()), !none);
        }
        Constructor<?>[] made = MirrorPairs.class.getDeclaredConstructors();
        Checks.due("constructors", made.length, 1);
        Checks.due("parameters of the constructor", made[0].getParameterCount(), 0);
        Checks.due("the class is final", Modifier.isFinal(MirrorPairs.class.getModifiers()), true);
        Checks.due("classes", MirrorPairs.class.getDeclaredClasses().length + 1 <= 12, true);
        for (Class<?> inside : MirrorPairs.class.getDeclaredClasses()) {
            Checks.due(inside.getName() + " is static", Modifier.isStatic(inside.getModifiers()), true);
            Checks.due(inside.getName() + " has few fields", inside.getDeclaredFields().length <= 20, true);
        }
    }

    private static void words() throws Exception {
        Path file = Path.of(System.getProperty("project.root", "."), "src/main/java/MirrorPairs.java");
        String code = Files.readString(file)
                .replaceAll("(?s)/\\*.*?\\*/", " ").replaceAll("//[^\n]*", " ");
        Matcher bad = Pattern.compile(
                "\\b(throw|throws|try|catch|synchronized|assert|import|package)\\b|->|::|@|\"").matcher(code);
        Checks.due("a word outside the rules", bad.find(), false);
        for (String line : code.split("\n")) {
            boolean open = line.matches("\\s*(private |public )?static .*[=;].*");
            Checks.due("static and not final: " + line, open && !line.contains("final"), false);
        }
    }

    /** The dearest runs of 512 calls stay far inside the room of some 7.3 million fields and elements. */
    private static void room() {
        com.sun.management.ThreadMXBean bean =
                (com.sun.management.ThreadMXBean) java.lang.management.ManagementFactory.getThreadMXBean();
        bean.getCurrentThreadAllocatedBytes();
        long before = bean.getCurrentThreadAllocatedBytes();
        for (int k = 0; k < 512; k++) {
            new MirrorPairs();
        }
        long after = bean.getCurrentThreadAllocatedBytes();
        Checks.due("bytes for 512 objects " + (after - before), after - before < 14_000_000L, true);
        MirrorPairs x = new MirrorPairs();
        before = bean.getCurrentThreadAllocatedBytes();
        for (int k = 0; k < 128; k++) {
            x.fail(0, 1);
            x.repair(0, 1);
            x.arrive(0, 1, false);
            x.arrive(1, 0, false);
        }
        after = bean.getCurrentThreadAllocatedBytes();
        Checks.due("bytes for 128 copies " + (after - before), after - before < 3_000_000L, true);
    }
}
