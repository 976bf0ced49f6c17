import java.lang.reflect.Constructor;
import java.lang.reflect.Field;
import java.lang.reflect.Method;
import java.lang.reflect.Modifier;
import java.nio.file.Files;
import java.nio.file.Path;
import java.util.ArrayList;
import java.util.List;
import java.util.TreeSet;
import java.util.regex.Matcher;
import java.util.regex.Pattern;

/** The class's face, held against the document's own words, and some rules of LANGUAGE.md that a text search sees. */
public final class FaceTest {

    /** What LANGUAGE.md rules out and a search finds; an exception of the machine may not be caught either. */
    private static final String[] FORBIDDEN = {
        "(?m)^(?!\\s*(case|default)\\b).*->", "::", "\\bfinally\\b", "\\bsynchronized\\b", "\\bassert\\b", "\\.getMessage",
        "\\w+Exact\\(", "\\bimport (?!java\\.util\\.(Arrays|ArrayList|List|Iterator|NoSuchElementException);)",
        "\\bSystem\\.(?!arraycopy)", "\\bRandom\\b", "\\bThread\\b", "\\bhashCode\\b", "\\bstatic \\{", "(?m)^\\s*package\\b",
        "\\bcatch\\s*\\([^)]*\\b(Throwable|Error|Exception|ArrayIndexOutOfBoundsException|NullPointerException|ClassCastException"
            + "|NegativeArraySizeException|ArrayStoreException)\\b"};

    public static void main(String[] args) throws Exception {
        String document = Files.readString(Path.of("../shared/DOC.md"));
        int from = document.indexOf("public final class SilentMonks {");
        String face = document.substring(from, document.indexOf("```", from));
        constantsAreAsTold(face);
        membersAreAsTold(face);
        sourceKeepsTheRules();
        Kit.end();
    }

    private static void constantsAreAsTold(String face) throws Exception {
        Matcher told = Pattern.compile("int ([A-Z_]+) = (-?\\d+);").matcher(face);
        int count = 0;
        while (told.find()) {
            Field field = SilentMonks.class.getField(told.group(1));
            Kit.due(told.group(1), field.getInt(null), Integer.parseInt(told.group(2)));
            Kit.due(told.group(1) + " is final", Modifier.isFinal(field.getModifiers()), true);
            count++;
        }
        Kit.due("constants", count, SilentMonks.class.getFields().length);
    }

    private static void membersAreAsTold(String face) {
        TreeSet<String> told = new TreeSet<>();
        Matcher line = Pattern.compile("public (\\w+) (\\w+)\\(([^)]*)\\)(?: throws ([^;]+))?;").matcher(face);
        while (line.find()) {
            List<String> types = new ArrayList<>();
            for (String parameter : line.group(3).split(",")) {
                if (!parameter.isBlank()) {
                    types.add(parameter.trim().split(" ")[0]);
                }
            }
            String thrown = line.group(4) == null ? "" : line.group(4);
            told.add(line.group(1) + " " + line.group(2) + types + " " + List.of(thrown.split(", ")));
        }
        TreeSet<String> here = new TreeSet<>();
        for (Method method : SilentMonks.class.getDeclaredMethods()) {
            if (!Modifier.isPrivate(method.getModifiers())) {
                here.add(signature(method));
            } else {
                Kit.due("private " + method.getName() + " has a public one's name",
                    face.contains(" " + method.getName() + "("), false);
            }
        }
        Kit.due("methods", here, told);
        Kit.due("constructors", SilentMonks.class.getDeclaredConstructors().length, 1);
        for (Constructor<?> constructor : SilentMonks.class.getDeclaredConstructors()) {
            Kit.due("the constructor is public", Modifier.isPublic(constructor.getModifiers()), true);
            Kit.due("its parameters", constructor.getParameterCount(), 0);
        }
        for (Field field : SilentMonks.class.getDeclaredFields()) {
            int modifiers = field.getModifiers();
            Kit.due(field.getName() + " is told or private",
                face.contains(" " + field.getName() + " ") || Modifier.isPrivate(modifiers), true);
            Kit.due(field.getName() + " is final, if static",
                Modifier.isFinal(modifiers) || !Modifier.isStatic(modifiers), true);
        }
        Kit.due("the class is final", Modifier.isFinal(SilentMonks.class.getModifiers()), true);
    }

    private static String signature(Method method) {
        List<String> types = new ArrayList<>();
        for (Class<?> type : method.getParameterTypes()) {
            types.add(type.getSimpleName());
        }
        List<String> thrown = new ArrayList<>();
        for (Class<?> type : method.getExceptionTypes()) {
            thrown.add(type.getSimpleName());
        }
        if (thrown.isEmpty()) {
            thrown.add("");
        }
        return method.getReturnType().getSimpleName() + " " + method.getName() + types + " " + thrown;
    }

    private static void sourceKeepsTheRules() throws Exception {
        String source = Files.readString(Path.of("src/main/java/SilentMonks.java"));
        String code = source.replaceAll("(?s)/\\*.*?\\*/", "").replaceAll("//[^\n]*", "");
        for (String rule : FORBIDDEN) {
            Kit.due("the source has " + rule, Pattern.compile(rule).matcher(code).find(), false);
        }
        for (int i = 0; i < code.length(); i++) {
            if (code.charAt(i) > 127) {
                Kit.due("sign " + i + " of the code", code.charAt(i), "one of 1 to 127");
            }
        }
    }
}
