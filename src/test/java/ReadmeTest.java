import java.io.IOException;
import java.lang.reflect.Field;
import java.lang.reflect.InvocationTargetException;
import java.lang.reflect.Method;
import java.lang.reflect.Modifier;
import java.nio.file.Files;
import java.nio.file.Path;
import java.util.List;
import java.util.regex.Matcher;
import java.util.regex.Pattern;

/** README.md: its examples answer what stands behind them, and it tells each member of the face. */
final class ReadmeTest {
    private static final Check CHECK = new Check();
    private static final Pattern CALL = Pattern.compile("m\\.(\\w+)\\((.*?)\\);(?: *// (.*))?");
    private static final Pattern ANSWER = Pattern.compile("(0x[0-9a-f]{8}|-?[0-9]+|STATE|BAD|\\w+Exception)\\b.*");

    private static KeyMeeting meeting = null;
    private static int answers = 0;

    public static void main(String[] args) throws IOException, ReflectiveOperationException {
        Path readme = Path.of("README.md");
        runExamples(Files.readAllLines(readme));
        CHECK.due("some answers are compared", answers >= 20 ? 1 : 0, 1);
        tellsTheFace(Files.readString(readme));
        CHECK.end();
    }

    private static void runExamples(List<String> lines) throws ReflectiveOperationException {
        boolean inside = false;
        for (String line : lines) {
            if (line.startsWith("```")) {
                inside = line.equals("```java");
            } else if (inside && !line.isEmpty()) {
                runLine(line);
            }
        }
    }

    private static void runLine(String line) throws ReflectiveOperationException {
        Matcher call = CALL.matcher(line);
        if (line.equals("KeyMeeting m = new KeyMeeting();")) {
            meeting = new KeyMeeting();
        } else if (call.matches()) {
            String got = answer(call.group(1), call.group(2));
            Matcher want = ANSWER.matcher(call.group(3) == null ? "" : call.group(3));
            boolean told = want.matches();
            CHECK.due(line + " tells an answer", told ? 1 : 0, got.equals("null") ? 0 : 1);
            if (told) {
                answers++;
                CHECK.due(line, got, value(want.group(1)));
            }
        } else {
            CHECK.tell(line + " is no call");
        }
    }

    private static String answer(String name, String written) throws ReflectiveOperationException {
        for (Method method : KeyMeeting.class.getDeclaredMethods()) {
            if (method.getName().equals(name)) {
                try {
                    return String.valueOf(method.invoke(meeting, arguments(method, written)));
                } catch (InvocationTargetException e) {
                    return e.getCause().getClass().getSimpleName();
                }
            }
        }
        return "no such method";
    }

    private static Object[] arguments(Method method, String written) {
        String[] parts = written.isEmpty() ? new String[0] : written.split(", ");
        Object[] all = new Object[parts.length];
        for (int i = 0; i < all.length; i++) {
            if (method.getParameterTypes()[i] == long.class) {
                all[i] = Long.valueOf(parts[i]);
            } else {
                all[i] = Integer.valueOf(parts[i]);
            }
        }
        return all;
    }

    private static String value(String written) {
        return switch (written) {
            case "STATE" -> Integer.toString(KeyMeeting.STATE);
            case "BAD" -> Integer.toString(KeyMeeting.BAD);
            default -> written.startsWith("0x")
                ? Integer.toString(Integer.parseUnsignedInt(written.substring(2), 16)) : written;
        };
    }

    private static void tellsTheFace(String text) throws ReflectiveOperationException {
        for (Field field : KeyMeeting.class.getFields()) {
            dueRow(text, Pattern.quote("| `" + field.getName() + "` = " + field.getInt(null) + " |"));
        }
        dueRow(text, Pattern.quote("| `KeyMeeting()` |"));
        for (Method method : KeyMeeting.class.getDeclaredMethods()) {
            if (Modifier.isPublic(method.getModifiers())) {
                StringBuilder row = new StringBuilder("\\| `" + method.getReturnType() + " " + method.getName() + "\\(");
                for (int i = 0; i < method.getParameterCount(); i++) {
                    row.append(i == 0 ? "" : ", ").append(method.getParameterTypes()[i]).append(" \\w+");
                }
                dueRow(text, row.append("\\)` \\|").toString());
            }
        }
    }

    private static void dueRow(String text, String row) {
        if (!Pattern.compile("^" + row, Pattern.MULTILINE).matcher(text).find()) {
            CHECK.tell("no row of README.md begins with " + row);
        }
    }
}
