import java.io.IOException;
import java.lang.reflect.Executable;
import java.lang.reflect.Field;
import java.lang.reflect.Method;
import java.lang.reflect.Modifier;
import java.nio.file.Files;
import java.nio.file.Path;
import java.util.Set;
import java.util.TreeSet;
import java.util.regex.Matcher;
import java.util.regex.Pattern;

/** The document's public face, and those rules of LANGUAGE.md that can be read off the class and its source. */
public final class LanguageTest {
    private static final int MOST_CLASSES = 12;
    private static final int MOST_FIELDS = 22;
    private static final int MOST_PARAMETERS = 7;
    private static final int MOST_LINES = 60;

    public static void main(String[] args) throws IOException {
        face();
        members();
        source(Files.readString(Path.of("src/main/java/OneWindow.java")));
        Tester.end();
    }

    private static void is(String what, boolean holds) {
        Tester.due(what, holds, true);
    }

    /** The methods of the document's face, as name(types):type, against those of the class. */
    private static void face() throws IOException {
        Set<String> told = new TreeSet<>();
        Matcher lines = Pattern.compile("(?m)^    public (int|boolean) (\\w+)\\(([^)]*)\\)( throws \\w+)?;$")
                .matcher(Files.readString(Path.of("../shared/DOC.md")));
        while (lines.find()) {
            String types = lines.group(3).replaceAll("(\\w+) \\w+", "$1").replace(" ", "");
            told.add(lines.group(2) + "(" + types + "):" + lines.group(1));
        }
        Set<String> found = new TreeSet<>();
        for (Method method : OneWindow.class.getDeclaredMethods()) {
            if (Modifier.isPublic(method.getModifiers())) {
                StringBuilder types = new StringBuilder();
                for (Class<?> type : method.getParameterTypes()) {
                    types.append(types.length() > 0 ? "," : "").append(type.getName());
                }
                found.add(method.getName() + "(" + types + "):" + method.getReturnType().getName());
            }
        }
        Tester.due("methods of the face", told.size(), 49);
        is("the face is the document's: " + told + " " + found, told.equals(found));
        is("public and final", Modifier.isPublic(OneWindow.class.getModifiers()) && Modifier.isFinal(OneWindow.class.getModifiers()));
        Tester.due("constructors", OneWindow.class.getConstructors().length, 1);
        Tester.due("NONE", OneWindow.NONE, -1);
        Tester.due("HIDDEN", OneWindow.HIDDEN, -1000000);
    }

    private static void members() {
        Set<String> face = new TreeSet<>();
        for (Method method : OneWindow.class.getMethods()) {
            face.add(method.getName());
        }
        Class<?>[] inside = OneWindow.class.getDeclaredClasses();
        is("few classes", inside.length + 1 <= MOST_CLASSES);
        fewOfAll(OneWindow.class, face);
        for (Field field : OneWindow.class.getDeclaredFields()) {
            boolean told = field.getName().equals("NONE") || field.getName().equals("HIDDEN");
            is(field + " is private", told || Modifier.isPrivate(field.getModifiers()));
        }
        for (Method method : OneWindow.class.getDeclaredMethods()) {
            int sight = method.getModifiers() & (Modifier.PUBLIC | Modifier.PRIVATE);
            is(method + " is public or private", sight != 0);
        }
        for (Class<?> one : inside) {
            is(one + " is static", Modifier.isStatic(one.getModifiers()));
            is(one + " is not public", !Modifier.isPublic(one.getModifiers()) && !Modifier.isProtected(one.getModifiers()));
            fewOfAll(one, face);
        }
    }

    private static void fewOfAll(Class<?> one, Set<String> face) {
        int fields = 0;
        for (Field field : one.getDeclaredFields()) {
            boolean isStatic = Modifier.isStatic(field.getModifiers());
            fields += isStatic ? 0 : 1;
            is(field + " is final if static", !isStatic || Modifier.isFinal(field.getModifiers()));
        }
        is(one + " has few fields", fields <= MOST_FIELDS);
        for (Method method : one.getDeclaredMethods()) {
            is(method + " takes few", method.getParameterCount() <= MOST_PARAMETERS);
            is(method + " has a name of its own", Modifier.isPublic(method.getModifiers()) || !face.contains(method.getName()));
        }
        for (Executable made : one.getDeclaredConstructors()) {
            is(made + " takes few", made.getParameterCount() <= MOST_PARAMETERS);
        }
    }

    private static void source(String whole) {
        String code = whole.replaceAll("(?s)/\\*.*?\\*/", "").replaceAll("//[^\n]*", "");
        String plain = code.replaceAll("\"[^\"\n]*\"", "\"\"").replaceAll("'[^'\n]+'", "' '");
        String[] never = {"->", "::", "\\btry\\b", "\\bcatch\\b", "\\bfinally\\b", "\\bsynchronized\\b", "\\bassert\\b",
            "\\bpackage\\b", "\\bequals\\(", "\\bhashCode\\b", "\\btoString\\b", "\\bdouble\\b", "\\bfloat\\b",
            "\\bSystem\\.(?!arraycopy\\()", "\\bMath\\.\\w+Exact", "\\bArrays\\.(?!(fill|copyOf|copyOfRange)\\()",
            "\\bstatic\\s*\\{", "\\bwhile \\(true\\)", "for \\(;;", "\\bRandom\\b", "\\bThread\\b", "\\+ \"", "\" \\+"};
        for (String one : never) {
            is("no " + one, !Pattern.compile(one).matcher(plain).find());
        }
        Matcher imports = Pattern.compile("import ([\\w.]+);").matcher(plain);
        while (imports.find()) {
            String name = imports.group(1);
            is("import of " + name, name.equals("java.util.Arrays") || name.equals("java.util.NoSuchElementException"));
        }
        Matcher thrown = Pattern.compile("throw\\s+([^;]*);").matcher(plain);
        while (thrown.find()) {
            is("throws " + thrown.group(1), thrown.group(1).equals("new NoSuchElementException(\"\")"));
        }
        is("bytes 0 to 127", whole.chars().allMatch(sign -> sign < 128));
        methodsAreShort(code.split("\n"));
    }

    private static void methodsAreShort(String[] lines) {
        Pattern head = Pattern.compile("^ {4,8}[\\w\\[\\]<> ]+\\([^;]*\\{$");
        int from = -1;
        String end = "";
        for (int i = 0; i < lines.length; i++) {
            if (from < 0 && head.matcher(lines[i]).matches()) {
                from = i;
                end = lines[i].replaceAll("\\S.*", "") + "}";
            } else if (from >= 0 && lines[i].equals(end)) {
                is("short: " + lines[from], i - from < MOST_LINES);
                from = -1;
            }
        }
    }
}
