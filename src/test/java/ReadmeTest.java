import java.io.IOException;
import java.lang.reflect.InvocationTargetException;
import java.lang.reflect.Method;
import java.lang.reflect.Modifier;
import java.nio.file.Files;
import java.nio.file.Path;
import java.util.Set;
import java.util.TreeSet;
import java.util.regex.Matcher;
import java.util.regex.Pattern;

/** The calls that README.md shows answer as it says, and it shows each call of the face. */
final class ReadmeTest {
    private static final Pattern CALL = Pattern.compile("x\\.(\\w+)\\((.*?)\\); +// (-?\\w+)(:.*)?");
    private static final Pattern READ = Pattern.compile("read\\(x, \"(.*)\"\\); +// (\\d+)(:.*)?");
    private static final String NEW = "SailingLights x = new SailingLights();";

    private final Due due = new Due("ReadmeTest");
    private final Set<String> left = new TreeSet<>();
    private SailingLights x;

    public static void main(String[] args) throws IOException {
        new ReadmeTest().run();
    }

    private void run() throws IOException {
        for (Method m : SailingLights.class.getDeclaredMethods()) {
            if (Modifier.isPublic(m.getModifiers())) {
                left.add(m.getName());
            }
        }
        String helpers = plain(Files.readString(Path.of("src/test/java/Due.java")));
        boolean within = false;
        StringBuilder block = new StringBuilder();
        for (String line : Files.readAllLines(Path.of("README.md"))) {
            if (line.startsWith("```")) {
                within = line.equals("```java");
                if (block.toString().startsWith("static")) {
                    due.is("the tests feed by '" + block + "'", helpers.contains(plain(block.toString())), true);
                } else {
                    block.toString().lines().forEach(this::shown);
                }
                block.setLength(0);
            } else if (within) {
                block.append(line).append('\n');
            }
        }
        due.is("calls that README.md leaves out " + left, left.size(), 0);
        due.end();
    }

    private static String plain(String text) {
        return text.replaceAll("\\s+", " ").trim();
    }

    private void shown(String line) {
        Matcher call = CALL.matcher(line);
        Matcher read = READ.matcher(line);
        if (line.equals(NEW)) {
            x = new SailingLights();
        } else if (read.matches()) {
            due.is(line, Due.read(x, read.group(1)), Integer.parseInt(read.group(2)));
        } else if (call.matches()) {
            left.remove(call.group(1));
            String got = answer(call.group(1), call.group(2).isEmpty() ? new String[0] : call.group(2).split(", "));
            due.is(line + " was " + got, got.equals(call.group(3)), true);
        } else {
            due.is("a call: '" + line + "'", false, true);
        }
    }

    private String answer(String name, String[] arguments) {
        for (Method m : SailingLights.class.getDeclaredMethods()) {
            if (m.getName().equals(name) && m.getParameterCount() == arguments.length) {
                Object[] values = new Object[arguments.length];
                for (int i = 0; i < values.length; i++) {
                    values[i] = m.getParameterTypes()[i] == int.class
                        ? (Object) Integer.decode(arguments[i]) : (Object) Boolean.valueOf(arguments[i]);
                }
                try {
                    Object got = m.invoke(x, values);
                    return got == null ? "nothing" : got.toString();
                } catch (InvocationTargetException e) {
                    return e.getCause().getClass().getSimpleName();
                } catch (IllegalAccessException e) {
                    return "hidden";
                }
            }
        }
        return "no such call";
    }
}
