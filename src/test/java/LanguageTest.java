import java.io.IOException;
import java.lang.reflect.Constructor;
import java.lang.reflect.Field;
import java.lang.reflect.Method;
import java.lang.reflect.Modifier;
import java.nio.file.Files;
import java.nio.file.Path;
import java.util.ArrayList;
import java.util.Arrays;
import java.util.List;
import java.util.Set;
import java.util.TreeSet;
import java.util.regex.Matcher;
import java.util.regex.Pattern;

/** The public face of the document, and what of LANGUAGE.md can be seen from outside. */
public final class LanguageTest {
    private static final String[] FACE = {
        "boolean prime(int)",
        "void clear()",
        "int seat(int)",
        "boolean deal()",
        "boolean seal(int,int,long,long)",
        "long sealOf(int) throws IndexOutOfBoundsException",
        "boolean turn(int)",
        "int laid(int) throws IndexOutOfBoundsException",
        "boolean assign(int,int)",
        "boolean give(int,int)",
        "int open(int,int)",
        "boolean round()",
        "boolean bet(int,int,int)",
        "boolean settle(int)",
        "boolean show(int)",
        "int audit() throws IllegalStateException",
        "boolean cheat(int,int,int)",
        "int state(int)",
        "int player(int,int)",
    };

    private static final String[] FORBIDDEN = {
        "->", "::", "\\bsynchronized\\b", "\\bassert\\b", "\\bfinally\\b", "\\bnative\\b", "\\bvolatile\\b",
        "\\bMath\\.(?!min|max|abs|floorMod|floorDiv)", "Exact\\(", "\\bSystem\\.(?!arraycopy)", "\\bThread\\b",
        "\\bRandom\\b", "\\bdouble\\b", "\\bfloat\\b", "\\bstatic\\s*\\{", "^package ", "getMessage", "\\bvar\\b",
        "\\bString\\b", "@",
    };

    private static int wrong = 0;

    public static void main(String[] args) throws IOException {
        face();
        nestedClasses();
        text(Files.readString(Path.of("src/main/java/OpenDeal.java")));
        System.out.println(wrong == 0 ? "all rules are kept" : wrong + " rules are broken");
        if (wrong != 0) {
            System.exit(1);
        }
    }

    private static void keep(boolean kept, String rule) {
        if (!kept) {
            wrong++;
            System.out.println("broken: " + rule);
        }
    }

    private static void face() {
        Class<?> c = OpenDeal.class;
        keep(Modifier.isPublic(c.getModifiers()) && Modifier.isFinal(c.getModifiers()), "public and final");
        Set<String> open = new TreeSet<>();
        Set<String> openNames = new TreeSet<>();
        Set<String> privateNames = new TreeSet<>();
        for (Method m : c.getDeclaredMethods()) {
            if (Modifier.isPrivate(m.getModifiers())) {
                privateNames.add(m.getName());
            } else {
                keep(Modifier.isPublic(m.getModifiers()) && !Modifier.isStatic(m.getModifiers()), m + " is of the face");
                open.add(signature(m));
                openNames.add(m.getName());
            }
            keep(m.getParameterCount() <= 7, m + " takes at most seven");
        }
        keep(open.equals(new TreeSet<>(Arrays.asList(FACE))), "the face is " + open);
        for (Class<?> nested : c.getDeclaredClasses()) {
            for (Method m : nested.getDeclaredMethods()) {
                privateNames.add(m.getName());
            }
        }
        privateNames.retainAll(openNames);
        keep(privateNames.isEmpty(), "private names of public ones: " + privateNames);
        Constructor<?>[] constructors = c.getDeclaredConstructors();
        keep(constructors.length == 1 && constructors[0].getParameterCount() == 0
                && Modifier.isPublic(constructors[0].getModifiers()), "one public constructor");
        for (Field f : c.getDeclaredFields()) {
            boolean none = f.getName().equals("NONE");
            keep(none ? Modifier.isPublic(f.getModifiers()) : Modifier.isPrivate(f.getModifiers()), f + " is hidden");
        }
        keep(OpenDeal.NONE == -1, "NONE is -1");
    }

    private static String signature(Method m) {
        StringBuilder text = new StringBuilder();
        text.append(m.getReturnType().getSimpleName()).append(' ').append(m.getName()).append('(');
        List<String> types = new ArrayList<>();
        for (Class<?> type : m.getParameterTypes()) {
            types.add(type.getSimpleName());
        }
        text.append(String.join(",", types)).append(')');
        for (Class<?> type : m.getExceptionTypes()) {
            text.append(" throws ").append(type.getSimpleName());
        }
        return text.toString();
    }

    private static void nestedClasses() {
        Class<?>[] nested = OpenDeal.class.getDeclaredClasses();
        keep(nested.length <= 11, "at most some twelve classes");
        List<Class<?>> all = new ArrayList<>(Arrays.asList(nested));
        all.add(OpenDeal.class);
        for (Class<?> c : all) {
            if (c != OpenDeal.class) {
                keep(Modifier.isStatic(c.getModifiers()) && !Modifier.isPublic(c.getModifiers()), c + " is static");
            }
            int fields = 0;
            for (Field f : c.getDeclaredFields()) {
                if (Modifier.isStatic(f.getModifiers())) {
                    keep(Modifier.isFinal(f.getModifiers()), f + " is final");
                } else {
                    fields++;
                }
            }
            keep(fields <= 20, c + " has at most some twenty fields");
        }
    }

    private static void text(String source) {
        String code = source.replaceAll("(?s)/\\*.*?\\*/", "").replaceAll("//[^\n]*", "");
        for (String pattern : FORBIDDEN) {
            Matcher m = Pattern.compile(pattern, Pattern.MULTILINE).matcher(code);
            keep(!m.find(), "the text holds " + pattern);
        }
        Matcher imports = Pattern.compile("import ([^;]*);").matcher(code);
        while (imports.find()) {
            keep(Set.of("java.util.Arrays", "java.util.ArrayList", "java.util.List").contains(imports.group(1)),
                    "import " + imports.group(1));
        }
        Matcher thrown = Pattern.compile("\\bthrow\\b([^;]*);").matcher(code);
        while (thrown.find()) {
            keep(thrown.group(1).matches(" new (IllegalState|IndexOutOfBounds)Exception\\((\"[^\"]*\")?\\)"),
                    "throw" + thrown.group(1));
        }
        methodLengths(source.split("\n"));
    }

    private static void methodLengths(String[] lines) {
        int start = -1;
        for (int i = 0; i < lines.length; i++) {
            String line = lines[i];
            int indent = line.length() - line.stripLeading().length();
            if ((indent == 4 || indent == 8) && line.endsWith(") {") && !line.contains(" class ")
                    && !line.strip().matches("(if|for|while|switch)\\b.*")) {
                start = i;
            }
            if (start >= 0 && line.strip().equals("}") && indent == lines[start].length() - lines[start].stripLeading().length()) {
                keep(i - start < 60, "a method of " + (i - start) + " lines: " + lines[start].strip());
                start = -1;
            }
        }
    }
}
