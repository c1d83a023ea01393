import java.io.IOException;
import java.lang.reflect.Constructor;
import java.lang.reflect.Field;
import java.lang.reflect.Method;
import java.lang.reflect.Modifier;
import java.nio.file.Files;
import java.nio.file.Path;
import java.util.ArrayList;
import java.util.List;
import java.util.TreeSet;
import java.util.regex.Matcher;
import java.util.regex.Pattern;

/** The public face as the document tells it, and what LANGUAGE.md rules out as far as a text search can tell. */
public final class FaceTest {
    private static final Path SOURCE = Path.of("src/main/java/LeadPark.java");
    private static final Path DOCUMENT = Path.of("../shared/DOC.md");

    public static void main(String[] args) throws IOException {
        faceIsTheDocuments();
        nothingElseIsSeen();
        sourceKeepsToTheLanguage();
        methodsAndClassesAreShort();
        Checks.finish();
    }

    private static void faceIsTheDocuments() throws IOException {
        String document = Files.readString(DOCUMENT);
        String face = document.substring(document.indexOf("```java"), document.indexOf("## Terms"));
        Matcher told = Pattern.compile("    public (?!static)(?!LeadPark)(.*);").matcher(face);
        TreeSet<String> due = new TreeSet<>();
        while (told.find()) {
            due.add(told.group(1));
        }
        TreeSet<String> got = new TreeSet<>();
        Matcher written = Pattern.compile("(?m)^    public (?!static)(?!LeadPark)([^{]*) \\{").matcher(Files.readString(SOURCE));
        while (written.find()) {
            got.add(written.group(1).replaceAll("\\s+", " "));
        }
        Checks.equal("methods of the document", 37, due.size());
        Checks.text("the methods", due.toString(), got.toString());
    }

    private static void nothingElseIsSeen() {
        Checks.isTrue("the class is final", Modifier.isFinal(LeadPark.class.getModifiers()));
        TreeSet<String> open = new TreeSet<>();
        for (Method method : LeadPark.class.getDeclaredMethods()) {
            if (Modifier.isPublic(method.getModifiers())) {
                open.add(method.getName());
            }
        }
        List<Class<?>> all = new ArrayList<>(List.of(LeadPark.class.getDeclaredClasses()));
        for (Class<?> inside : all) {
            Checks.isTrue(inside + " is static", Modifier.isStatic(inside.getModifiers()));
            Checks.isFalse(inside + " is not open",
                    Modifier.isPublic(inside.getModifiers()) || Modifier.isProtected(inside.getModifiers()));
        }
        Checks.isTrue("some twelve classes", all.size() < 12);
        for (Method method : LeadPark.class.getDeclaredMethods()) {
            boolean hidden = Modifier.isPrivate(method.getModifiers());
            Checks.isTrue(method + " is of the face or private", hidden || Modifier.isPublic(method.getModifiers()));
        }
        all.add(LeadPark.class);
        for (Class<?> one : all) {
            for (Method method : one.getDeclaredMethods()) {
                boolean face = one == LeadPark.class && Modifier.isPublic(method.getModifiers());
                Checks.isTrue(method + " has a name of its own", face || !open.contains(method.getName()));
                Checks.isTrue(method + " takes at most seven", method.getParameterCount() <= 7);
            }
            for (Field field : one.getDeclaredFields()) {
                Checks.isTrue(field + " is no static state",
                        !Modifier.isStatic(field.getModifiers()) || Modifier.isFinal(field.getModifiers()));
            }
        }
        for (Field field : LeadPark.class.getDeclaredFields()) {
            Checks.isTrue(field + " is private or NONE",
                    Modifier.isPrivate(field.getModifiers()) || field.getName().equals("NONE"));
        }
        Constructor<?>[] constructors = LeadPark.class.getDeclaredConstructors();
        Checks.equal("one constructor", 1, constructors.length);
        Checks.isTrue("it is public", Modifier.isPublic(constructors[0].getModifiers()));
    }

    private static void sourceKeepsToTheLanguage() throws IOException {
        String source = Files.readString(SOURCE);
        String code = source.replaceAll("(?s)/\\*.*?\\*/", "").replaceAll("//.*", "").replaceAll("\"[^\"]*\"", "\"\"");
        String[] ruledOut = {"->", "::", "\\btry\\b", "\\bcatch\\b", "\\bfinally\\b", "\\bsynchronized\\b", "\\bassert\\b",
            "Exact\\b", "\\bpackage\\b", "\\bdouble\\b", "\\bfloat\\b", "\\bprotected\\b", "\\bSystem\\.(?!arraycopy)",
            "\\bThread\\b", "\\bRandom\\b", "\\bstatic \\{", "\\bwhile \\(true\\)", "for \\(;;\\)", "\" \\+|\\+ \""};
        for (String rule : ruledOut) {
            Checks.isFalse("the source has " + rule, Pattern.compile(rule).matcher(code).find());
        }
        for (String line : code.split("\n")) {
            boolean allowed = !line.startsWith("import ")
                    || line.equals("import java.util.Arrays;") || line.equals("import java.util.NoSuchElementException;");
            Checks.isTrue("the source has " + line, allowed);
            Checks.isTrue("all signs are 1 to 127: " + line, line.chars().allMatch(sign -> sign < 128));
        }
        Checks.equal("public and package-visible classes at the top", 1, count(code, "(?m)^\\S*.*\\bclass "
                + "LeadPark\\b"));
        Checks.equal("nothing is made but in fields", count(code, "\\bnew "),
                count(code, "private final \\S+ \\w+ = new ") + count(code, "throw new "));
    }

    private static void methodsAndClassesAreShort() throws IOException {
        Matcher method = Pattern.compile("(?ms)^( {4}| {8})\\w[^\n=;]*\\([^;{}]*\\)[^;{}]*\\{$.*?^\\1\\}$")
                .matcher(Files.readString(SOURCE));
        int methods = 0;
        while (method.find()) {
            methods++;
            long lines = method.group().lines().count();
            Checks.isTrue("some sixty lines at most, not " + lines + ": " + method.group().lines().findFirst(), lines <= 60);
        }
        Checks.isTrue("methods were found", methods > 100);
        List<Class<?>> all = new ArrayList<>(List.of(LeadPark.class.getDeclaredClasses()));
        all.add(LeadPark.class);
        for (Class<?> one : all) {
            int fields = 0;
            for (Field field : one.getDeclaredFields()) {
                fields += Modifier.isStatic(field.getModifiers()) ? 0 : 1;
            }
            Checks.isTrue(one + " has some twenty fields at most, not " + fields, fields <= 20);
        }
    }

    private static int count(String text, String what) {
        Matcher matcher = Pattern.compile(what).matcher(text);
        int count = 0;
        while (matcher.find()) {
            count++;
        }
        return count;
    }
}
