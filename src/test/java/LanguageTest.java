import java.io.DataInputStream;
import java.io.IOException;
import java.io.InputStream;
import java.lang.reflect.Field;
import java.lang.reflect.Method;
import java.lang.reflect.Modifier;
import java.nio.file.Files;
import java.nio.file.Path;
import java.util.ArrayList;
import java.util.List;
import java.util.regex.Matcher;
import java.util.regex.Pattern;

/** Those rules of LANGUAGE.md that can be read off the file, or off what it is compiled to; by the rules' numbers. */
public final class LanguageTest {
    private static final String OWN = "Cyclepaint";
    private static final String EXCEPTIONS = "(IllegalStateException|IllegalArgumentException|IndexOutOfBoundsException"
            + "|ArithmeticException|UnsupportedOperationException|NoSuchElementException|RuntimeException)";
    /** Owner, name and parameters of all of the library that the class may call. */
    private static final String LIBRARY = "java/lang/Object\\.<init>\\(\\)"
            + "|java/lang/String\\.(length|isEmpty|toCharArray)\\(\\)"
            + "|java/lang/String\\.(charAt\\(I\\)|indexOf\\(I\\)|substring\\(II?\\)|equals\\(.*\\)|<init>\\(\\[C\\))"
            + "|java/lang/StringBuilder\\.(<init>|length|reverse|toString)\\(\\)"
            + "|java/lang/StringBuilder\\.append\\((C|I|Ljava/lang/String;)\\)"
            + "|java/lang/StringBuilder\\.(charAt|setLength|deleteCharAt)\\(I\\)"
            + "|java/lang/StringBuilder\\.setCharAt\\(IC\\)"
            + "|java/lang/(Integer|Long|Math)\\.(?!\\w*Exact\\()\\w+\\([IJ]*\\)"
            + "|java/lang/System\\.arraycopy\\(.*\\)"
            + "|java/util/Arrays\\.(copyOf|copyOfRange|fill)\\(.*\\)"
            + "|java/util/(ArrayList|List)\\.\\w+\\(.*\\)"
            + "|java/(lang|util)/" + EXCEPTIONS + "\\.<init>\\((Ljava/lang/String;)?\\)";

    public static void main(String[] args) throws IOException {
        String file = Files.readString(Path.of("src/main/java/Cyclepaint.java"));
        words(withoutComments(file));
        signs(file);
        throwing(withoutComments(file));
        lengths(withoutComments(file));
        List<Class<?>> classes = allClasses();
        Checks.due("rule 11: at most some twelve classes", classes.size() <= 12, true);
        for (Class<?> one : classes) {
            members(one);
            library(one);
        }
        Checks.end("LanguageTest");
    }

    private static String withoutComments(String file) {
        return file.replaceAll("(?s)/\\*.*?\\*/", "").replaceAll("//[^\n]*", "");
    }

    private static List<Class<?>> allClasses() {
        List<Class<?>> classes = new ArrayList<>();
        classes.add(Cyclepaint.class);
        for (int i = 0; i < classes.size(); i++) {
            classes.addAll(List.of(classes.get(i).getDeclaredClasses()));
        }
        return classes;
    }

    private static void absent(String rule, String code, String pattern) {
        Matcher found = Pattern.compile(pattern).matcher(code);
        Checks.due(rule, found.find() ? found.group() : "none", "none");
    }

    private static void words(String code) {
        absent("rule 1: no package line", code, "\\bpackage\\b");
        absent("rule 2: no lambda, no method reference", code, "->|::");
        absent("rule 4: the imports", code, "\\bimport (?!java\\.util\\.(ArrayList|Arrays|List|NoSuchElementException"
                + "|Iterator);)[^\n]*");
        absent("rule 5: no static initialiser block", code, "\\bstatic\\s*\\{");
        absent("rule 6: words", code, "\\b(finally|synchronized|assert)\\b");
        absent("rule 6: no functions of all objects", code, "\\b(equals|hashCode|toString)\\s*\\([^)]*\\)\\s*\\{");
        absent("rule 9: no loop without an end", code, "while\\s*\\(\\s*true|for\\s*\\([^;]*;\\s*;");
        absent("rule 10: texts are not joined by +", code, "\"\\s*\\+|\\+\\s*\"");
        absent("rule 13: words", code, "\\b(System\\.(?!arraycopy)\\w+|Random|Thread)\\b");
    }

    private static void signs(String file) {
        absent("rule 4: signs", file, "[^\n -~]");
    }

    private static void throwing(String code) {
        absent("rule 6: what is thrown", code, "throw (?!new " + EXCEPTIONS + "\\((\"[^\"]*\")?\\);)[^\n]*");
        absent("rule 6: what is caught", code, "catch \\((?!" + EXCEPTIONS + " )[^\n]*");
    }

    /** What is opened right inside a class, and is none itself, is a method. */
    private static void lengths(String code) {
        String bare = code.replaceAll("\"[^\"]*\"", "\"\"").replaceAll("'.'", "' '");
        List<String> heads = new ArrayList<>();
        List<Integer> starts = new ArrayList<>();
        int line = 1;
        int head = 0;
        for (int i = 0; i < bare.length(); i++) {
            char sign = bare.charAt(i);
            line += sign == '\n' ? 1 : 0;
            if (sign == '{') {
                heads.add(bare.substring(head, i).trim());
                starts.add(line);
            } else if (sign == '}') {
                String name = heads.remove(heads.size() - 1);
                int lines = line - starts.remove(starts.size() - 1) + 1;
                if (!isClass(name) && !heads.isEmpty() && isClass(heads.get(heads.size() - 1))) {
                    Checks.due("rule 11: some sixty lines, " + name, lines <= 60, true);
                }
            }
            head = sign == '{' || sign == '}' || sign == ';' ? i + 1 : head;
        }
    }

    private static boolean isClass(String head) {
        return Pattern.compile("\\b(class|interface|enum|record)\\b").matcher(head).find();
    }

    private static void members(Class<?> one) {
        String name = one.getName();
        boolean isOuter = one == Cyclepaint.class;
        Checks.due("rule 1: " + name, isOuter || !Modifier.isPublic(one.getModifiers())
                && !Modifier.isProtected(one.getModifiers()) && Modifier.isStatic(one.getModifiers()), true);
        int fields = 0;
        for (Field field : one.getDeclaredFields()) {
            boolean isConstant = Modifier.isStatic(field.getModifiers());
            Checks.due("rule 5: " + field, !isConstant || Modifier.isFinal(field.getModifiers()), true);
            fields += isConstant ? 0 : 1;
        }
        Checks.due("rule 11: some twenty fields in " + name, fields <= 20, true);
        for (Method method : one.getDeclaredMethods()) {
            Checks.due("rule 11: " + method, method.getParameterCount() <= 7, true);
            Checks.due("rule 6: " + method, Modifier.isSynchronized(method.getModifiers()), false);
        }
    }

    /** Rule 4, by the compiled class: each method it names is its own or one of the library's that may be called. */
    private static void library(Class<?> one) throws IOException {
        for (String called : calledBy(one)) {
            Checks.due("rule 4: " + one.getName() + " calls " + called,
                    called.startsWith(OWN) || called.matches(LIBRARY), true);
        }
    }

    private static List<String> calledBy(Class<?> one) throws IOException {
        try (InputStream stream = one.getResourceAsStream("/" + one.getName() + ".class");
                DataInputStream in = new DataInputStream(stream)) {
            in.readLong();
            int count = in.readUnsignedShort();
            int[] tags = new int[count];
            int[] first = new int[count];
            int[] second = new int[count];
            String[] texts = new String[count];
            for (int i = 1; i < count; i++) {
                tags[i] = in.readUnsignedByte();
                switch (tags[i]) {
                    case 1 -> texts[i] = in.readUTF();
                    case 3, 4 -> in.readInt();
                    case 5, 6 -> in.readLong();
                    case 7, 8, 16, 19, 20 -> first[i] = in.readUnsignedShort();
                    case 15 -> in.skipBytes(3);
                    default -> {
                        first[i] = in.readUnsignedShort();
                        second[i] = in.readUnsignedShort();
                    }
                }
                i += tags[i] == 5 || tags[i] == 6 ? 1 : 0;
            }
            List<String> called = new ArrayList<>();
            for (int i = 1; i < count; i++) {
                if (tags[i] == 10 || tags[i] == 11) {
                    String parameters = texts[second[second[i]]];
                    called.add(texts[first[first[i]]] + "." + texts[first[second[i]]]
                            + parameters.substring(0, parameters.indexOf(')') + 1));
                } else if (tags[i] == 17 || tags[i] == 18) {
                    called.add("what is found out as it runs, such as a joined text or a lambda");
                }
            }
            return called;
        }
    }
}
