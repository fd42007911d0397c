import java.io.IOException;
import java.lang.reflect.Executable;
import java.lang.reflect.Field;
import java.lang.reflect.Modifier;
import java.nio.file.Files;
import java.nio.file.Path;
import java.util.ArrayList;
import java.util.List;
import java.util.regex.Matcher;
import java.util.regex.Pattern;

/** The rules of LANGUAGE.md that can be seen from the text of the class; it runs in the project's folder. */
public final class RulesTest {

    private static final Path SOURCE = Path.of("src/main/java/HoseTests.java");

    private static final String[] RULED_OUT = {
        "\\bpackage\\b", "\\bimport\\b", "->", "::", "\\bfinally\\b", "\\bsynchronized\\b", "\\bassert\\b", "\\bcatch\\b",
        "\\bDouble\\b", "\\bFloat\\b", "\\bSystem\\.(?!arraycopy)", "\\bThread\\b", "\\bRandom\\b", "\\w+Exact\\b",
        "\\bString\\.format\\b", "\\bstatic\\s*\\{", "\\bgoto\\b", "\\bwhile\\s*\\(true\\)", "\\bObject\\b",
        "\\.equals\\(", "\\bhashCode\\b", "\\btoString\\b", "\"\\s*\\+", "\\+\\s*\"",
    };

    private static final int LONGEST_METHOD = 60;
    private static final int MOST_PARAMETERS = 7;
    private static final int MOST_CLASSES = 12;
    private static final int MOST_FIELDS = 20;

    public static void main(String[] args) throws IOException {
        String text = Files.readString(SOURCE);
        theTextIsPlain(text);
        String code = withoutComments(text);
        for (String ruledOut : RULED_OUT) {
            Matcher m = Pattern.compile(ruledOut).matcher(code);
            Check.isTrue("rule against " + ruledOut, !m.find());
        }
        onlyWrittenExceptions(code);
        methodsStayShort(code);
        staticFieldsAreFinal();
        classesStaySmall();
        Check.end("RulesTest");
    }

    private static void theTextIsPlain(String text) {
        Check.isTrue("all signs are 1 to 127", text.chars().allMatch(c -> c >= 1 && c <= 127));
    }

    private static String withoutComments(String text) {
        return text.replaceAll("(?s)/\\*.*?\\*/", "").replaceAll("//[^\n]*", "");
    }

    private static void onlyWrittenExceptions(String code) {
        Pattern written = Pattern.compile("^throw new (IllegalState|IllegalArgument|IndexOutOfBounds)Exception\\(\"[^\"]*\"\\);");
        Matcher m = Pattern.compile("\\bthrow\\b").matcher(code);
        while (m.find()) {
            String rest = code.substring(m.start(), code.indexOf('\n', m.start()));
            Check.isTrue(rest + " is as rule 6 says", written.matcher(rest).find());
        }
    }

    private static void methodsStayShort(String code) {
        int start = -1;
        String[] lines = code.split("\n");
        for (int i = 0; i < lines.length; i++) {
            boolean opens = lines[i].matches("( {4}| {8})[^ ].*\\) ?.*\\{") || lines[i].matches(" {12}throws .*\\{");
            if (opens && !lines[i].contains(" class ")) {
                start = i;
            } else if (start >= 0 && lines[i].matches("( {4}| {8})\\}")) {
                Check.isTrue("the method at " + lines[start].trim() + " is short", i - start <= LONGEST_METHOD);
                start = -1;
            }
        }
    }

    private static List<Class<?>> classes() {
        List<Class<?>> all = new ArrayList<>(List.of(HoseTests.class.getDeclaredClasses()));
        all.add(HoseTests.class);
        return all;
    }

    private static void staticFieldsAreFinal() {
        for (Class<?> c : classes()) {
            for (Field f : c.getDeclaredFields()) {
                int marks = f.getModifiers();
                Check.isTrue(f + " is final if it is static", !Modifier.isStatic(marks) || Modifier.isFinal(marks));
            }
        }
    }

    private static void classesStaySmall() {
        Check.isTrue("the classes are few", classes().size() <= MOST_CLASSES);
        for (Class<?> c : classes()) {
            int fields = 0;
            for (Field f : c.getDeclaredFields()) {
                fields += Modifier.isStatic(f.getModifiers()) ? 0 : 1;
            }
            Check.isTrue(c + " has few fields", fields <= MOST_FIELDS);
            List<Executable> parts = new ArrayList<>(List.of(c.getDeclaredMethods()));
            parts.addAll(List.of(c.getDeclaredConstructors()));
            for (Executable part : parts) {
                Check.isTrue(part + " has few parameters", part.getParameterCount() <= MOST_PARAMETERS);
            }
        }
    }
}
