import java.lang.reflect.Method;
import java.lang.reflect.Modifier;
import java.nio.file.Files;
import java.nio.file.Path;
import java.util.ArrayList;
import java.util.List;
import java.util.Set;
import java.util.TreeSet;
import java.util.regex.Matcher;
import java.util.regex.Pattern;

/**
 * The calls that README.md shows, line by line: each must answer what stands behind it. The lines are read and done
 * here, so that the file can't come to tell what the class does not do; all public methods must be among them.
 */
public final class ReadmeTests {
    private static final Pattern CALL = Pattern.compile("x\\.(\\w+)\\((.*?)\\);\\s+// (-?\\d+|VOID|ENDED)(:.*)?");
    private static final Pattern FED = Pattern.compile("for \\(char letter : \"(.*)\"\\.toCharArray\\(\\)\\) \\{ x\\.feed\\(letter\\); \\}");
    private static int wrong = 0;

    private static void fault(String line, String what) {
        wrong++;
        System.out.println("README.md: " + line + ": " + what);
    }

    /** A number, or a letter that stands for one. */
    private static long numberOf(String told) {
        return told.startsWith("'") ? told.charAt(1) : Long.parseLong(told);
    }

    private static long due(String told) {
        return told.equals("VOID") ? Long.MIN_VALUE : told.equals("ENDED") ? Long.MIN_VALUE + 1 : Long.parseLong(told);
    }

    private static long answer(CutOffFilter x, String name, List<Long> told) throws Exception {
        for (Method method : CutOffFilter.class.getMethods()) {
            if (method.getName().equals(name) && method.getParameterCount() == told.size()) {
                Object[] arguments = new Object[told.size()];
                for (int i = 0; i < arguments.length; i++) {
                    boolean isLong = method.getParameterTypes()[i] == long.class;
                    arguments[i] = isLong ? (Object) told.get(i) : (Object) told.get(i).intValue();
                }
                return ((Number) method.invoke(x, arguments)).longValue();
            }
        }
        throw new IllegalArgumentException("no such call: " + name);
    }

    private static void look(CutOffFilter x, String line, Set<String> shown) throws Exception {
        Matcher fed = FED.matcher(line);
        if (fed.matches()) {
            for (char letter : fed.group(1).toCharArray()) {
                x.feed(letter);
            }
            return;
        }
        Matcher call = CALL.matcher(line);
        if (!call.matches()) {
            fault(line, "can't be read");
            return;
        }
        List<Long> told = new ArrayList<>();
        for (String number : call.group(2).isEmpty() ? new String[0] : call.group(2).split(", ")) {
            told.add(numberOf(number));
        }
        shown.add(call.group(1));
        long got = answer(x, call.group(1), told);
        if (got != due(call.group(3))) {
            fault(line, "answered " + got);
        }
    }

    public static void main(String[] arguments) throws Exception {
        Set<String> shown = new TreeSet<>();
        CutOffFilter x = null;
        boolean isInside = false;
        for (String line : Files.readAllLines(Path.of("README.md"))) {
            if (line.startsWith("```")) {
                isInside = line.equals("```java");
                x = null;
            } else if (isInside && line.equals("CutOffFilter x = new CutOffFilter();")) {
                x = new CutOffFilter();
            } else if (isInside && x == null) {
                fault(line, "there is no object yet");
            } else if (isInside) {
                look(x, line, shown);
            }
        }
        for (Method method : CutOffFilter.class.getDeclaredMethods()) {
            if (Modifier.isPublic(method.getModifiers()) && !shown.contains(method.getName())) {
                fault(method.getName(), "is not shown");
            }
        }
        System.out.println(wrong == 0 ? shown.size() + " calls are shown by README.md as they are" : wrong + " lines of README.md are not so");
        if (wrong != 0) {
            System.exit(1);
        }
    }
}
