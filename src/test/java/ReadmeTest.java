import java.lang.reflect.Method;
import java.lang.reflect.Modifier;
import java.nio.file.Files;
import java.nio.file.Path;
import java.util.regex.Matcher;
import java.util.regex.Pattern;

/** What README.md says of the class's use: the run that it shows, and that it leaves out no method. */
public final class ReadmeTest {
    private static final Pattern CALL = Pattern.compile("x\\.(\\w+)\\(([^)]*)\\);\\s*// (true|false|-?\\d+)(:.*)?");
    private static final String START = "MirrorPairs x = new MirrorPairs();";

    private ReadmeTest() {
    }

    public static void main(String[] args) throws Exception {
        Path file = Path.of(System.getProperty("project.root", "."), "README.md");
        String text = Files.readString(file);
        runShown(text);
        methodsTold(text);
        Checks.end("ReadmeTest");
    }

    private static void runShown(String text) throws Exception {
        MirrorPairs x = new MirrorPairs();
        int from = text.indexOf(START);
        int to = text.indexOf("```", Math.max(from, 0));
        Checks.due("the run begins and ends", from >= 0 && to > from, true);
        if (from < 0 || to < from) {
            return;
        }
        for (String line : text.substring(from + START.length(), to).trim().split("\n")) {
            Matcher call = CALL.matcher(line);
            boolean read = call.matches();
            Checks.due("\"" + line + "\" is a call with its answer", read, true);
            if (read) {
                Checks.due(line, answerOf(x, call.group(1), call.group(2)), numberOf(call.group(3)));
            }
        }
    }

    private static long answerOf(MirrorPairs x, String name, String arguments) throws Exception {
        String[] words = arguments.isEmpty() ? new String[0] : arguments.split(", ");
        for (Method method : MirrorPairs.class.getMethods()) {
            if (method.getName().equals(name) && method.getParameterCount() == words.length) {
                Object[] values = new Object[words.length];
                for (int k = 0; k < words.length; k++) {
                    boolean isInt = method.getParameterTypes()[k] == int.class;
                    values[k] = isInt ? (Object) Integer.valueOf(words[k]) : Boolean.valueOf(words[k]);
                }
                return numberOf(String.valueOf(method.invoke(x, values)));
            }
        }
        return Checks.NO;
    }

    private static long numberOf(String word) {
        if (word.equals("true")) {
            return 1;
        }
        return word.equals("false") ? 0 : Long.parseLong(word);
    }

    private static void methodsTold(String text) {
        for (Method method : MirrorPairs.class.getDeclaredMethods()) {
            if (Modifier.isPublic(method.getModifiers())) {
                boolean told = Pattern.compile("\\| .*`" + method.getName() + "\\(").matcher(text).find();
                Checks.due(method.getName() + " is told of", told, true);
            }
        }
    }
}
