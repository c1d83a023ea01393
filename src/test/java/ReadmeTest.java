import java.io.IOException;
import java.lang.reflect.InvocationTargetException;
import java.lang.reflect.Method;
import java.nio.file.Files;
import java.nio.file.Path;
import java.util.regex.Matcher;
import java.util.regex.Pattern;

/** The run of calls that README.md shows: each line is called, and what stands behind it is the answer. */
public final class ReadmeTest {
    private static final Path README = Path.of("README.md");
    private static final Pattern MADE = Pattern.compile("LeadPark x = new LeadPark\\(\\);");
    private static final Pattern TOLD = Pattern.compile("tell\\(x, \"(.*)\"\\);");
    private static final Pattern CALL = Pattern.compile("x\\.(\\w+)\\((.*?)\\);(?: +// (.*))?");

    private static LeadPark x = null;
    private static int calls = 0;

    public static void main(String[] args) throws IOException {
        String readme = Files.readString(README);
        int begin = readme.indexOf("LeadPark x = new LeadPark();");
        int end = begin < 0 ? -1 : readme.indexOf("```", begin);
        Checks.isTrue("README.md shows a run of calls", end > begin && begin >= 0);
        if (end > begin) {
            for (String line : readme.substring(begin, end).split("\n")) {
                call(line);
            }
        }
        Checks.isTrue("it shows some calls", calls >= 30);
        Checks.finish();
    }

    private static void call(String line) {
        Matcher told = TOLD.matcher(line);
        Matcher call = CALL.matcher(line);
        if (MADE.matcher(line).matches()) {
            x = new LeadPark();
        } else if (told.matches()) {
            Texts.tape(x, told.group(1));
        } else if (call.matches()) {
            String behind = call.group(3) == null ? "" : call.group(3);
            Checks.text(line, behind.split(":")[0], answer(call.group(1), call.group(2), behind));
            calls++;
        } else {
            Checks.isTrue("a line of README.md can be called: " + line, false);
        }
    }

    private static String answer(String name, String numbers, String behind) {
        String[] told = numbers.isEmpty() ? new String[0] : numbers.split(", ");
        for (Method method : LeadPark.class.getMethods()) {
            if (method.getName().equals(name) && method.getParameterCount() == told.length) {
                Object[] arguments = new Object[told.length];
                for (int k = 0; k < told.length; k++) {
                    arguments[k] = argument(told[k]);
                }
                return answer(method, arguments, behind);
            }
        }
        return "no such call";
    }

    private static Object argument(String told) {
        if (told.equals("LeadPark.NONE")) {
            return LeadPark.NONE;
        }
        return told.equals("true") || told.equals("false") ? (Object) Boolean.valueOf(told) : (Object) Integer.decode(told);
    }

    /** A call that answers nothing is right by any words behind it. */
    private static String answer(Method method, Object[] arguments, String behind) {
        try {
            Object got = method.invoke(x, arguments);
            return method.getReturnType() == void.class ? behind : got.toString();
        } catch (InvocationTargetException e) {
            return "throws " + e.getCause().getClass().getSimpleName();
        } catch (IllegalAccessException e) {
            throw new IllegalStateException(e);
        }
    }
}
