import java.io.ByteArrayInputStream;
import java.io.DataInputStream;
import java.io.IOException;
import java.io.InputStream;
import java.lang.reflect.Field;
import java.lang.reflect.Method;
import java.lang.reflect.Modifier;
import java.nio.charset.StandardCharsets;
import java.nio.file.Files;
import java.nio.file.Path;
import java.util.ArrayList;
import java.util.List;
import java.util.Set;
import java.util.TreeSet;
import java.util.regex.Matcher;
import java.util.regex.Pattern;

/** What can be looked up of the rules of LANGUAGE.md: in the program's text, its classes and what these refer to. */
public final class LanguageTest {
    private static final Path SOURCE = Path.of("src/main/java/EvenTrees.java");
    private static final String OWN = "EvenTrees";
    private static final int LINES = 60;
    private static final int PARAMETERS = 7;
    private static final int CLASSES = 12;
    private static final int FIELDS = 20;

    private static final String[] RULED_OUT = {
        "(?m)^(?!\\s*(case|default)\\b).*->", "::", "\\bsynchronized\\b", "\\bassert\\b", "\\bfinally\\b", "\\bpackage\\b",
        "Exact\\(", "\\bhashCode\\b", "\\btoString\\b", "\\bSystem\\.(out|in|err|nanoTime|currentTime)", "\\bvar\\b",
        "\\bThread\\b", "\\bRandom\\b", "\\bString\\.format\\b", "\\bMath\\.(sqrt|pow|random)\\b", "\\bprotected\\b",
        "\\bgetMessage\\b", "(?m)^    static \\{", "\\bpublic\\b(?! (static final int|int|long|boolean|final class|EvenTrees)\\b)",
        "catch \\((Exception|RuntimeException|Throwable|IndexOutOfBounds|ArrayIndex|NullPointer|Arithmetic|ClassCast"
            + "|NegativeArraySize|ArrayStore)"};

    private static final String[] LIBRARY = {
        "java/lang/Object\\.<init>", "java/lang/String\\.(length|charAt|isEmpty|equals|indexOf|substring|toCharArray|<init>)",
        "java/lang/StringBuilder\\.(<init>|append|charAt|setCharAt|setLength|deleteCharAt|reverse|length|toString)",
        "java/util/(ArrayList|List)\\.(<init>|add|get|set|remove|size|isEmpty|clear|iterator|of)",
        "java/util/Iterator\\.(hasNext|next)", "java/lang/(Integer|Long|Math)\\.(?!.*Exact)\\w+", "java/lang/System\\.arraycopy",
        "java/util/Arrays\\.(copyOf|copyOfRange|fill)",
        "java/(lang/(IllegalState|IllegalArgument|IndexOutOfBounds|Arithmetic|UnsupportedOperation|Runtime)"
            + "|util/NoSuchElement)Exception\\.<init>"};

    private final Check check = new Check();
    private final Set<Class<?>> classes = new TreeSet<>((a, b) -> a.getName().compareTo(b.getName()));

    public static void main(String[] args) throws IOException {
        LanguageTest test = new LanguageTest();
        test.check.part("language");
        String source = Files.readString(SOURCE, StandardCharsets.UTF_8);
        test.text(source.replaceAll("(?s)/\\*.*?\\*/", "").replaceAll("//[^\n]*", ""));
        test.check.holds("ASCII alone", source.chars().allMatch(sign -> sign < 128));
        test.collect(EvenTrees.class);
        test.check.holds("at most " + CLASSES + " classes", test.classes.size() <= CLASSES);
        for (Class<?> one : test.classes) {
            test.shape(one);
            test.references(one);
        }
        test.check.finish("LanguageTest");
    }

    private void collect(Class<?> outer) {
        classes.add(outer);
        for (Class<?> inside : outer.getDeclaredClasses()) {
            collect(inside);
        }
    }

    // ---- the text

    private void text(String code) {
        for (String word : RULED_OUT) {
            check.holds("no " + word, !Pattern.compile(word).matcher(code).find());
        }
        // A constructor hands out nothing of the object that it makes: no object is made of another one.
        check.holds("nothing is handed to a constructor", !Pattern.compile("new [A-Z]\\w*\\((?![\")])").matcher(code).find());
        Matcher thrown = Pattern.compile("\\bthrow\\b.*").matcher(code);
        while (thrown.find()) {
            check.holds(thrown.group(), thrown.group().matches("throw new \\w+\\((\"[^\"]*\")?\\);"));
        }
        int methods = 0;
        Matcher method = Pattern.compile("(?m)^( {4}| {8})\\S.*\\) (throws \\w+ )?\\{\n((?s:.*?))^\\1\\}$").matcher(code);
        while (method.find()) {
            methods++;
            long lines = method.group(3).chars().filter(sign -> sign == '\n').count();
            check.holds(method.group().split("\n")[0] + " has " + lines + " lines", lines <= LINES);
        }
        check.holds("methods were found", methods > 100);
    }

    // ---- classes, fields, methods

    private void shape(Class<?> one) {
        check.holds(one + " is static", one == EvenTrees.class || Modifier.isStatic(one.getModifiers()));
        int fields = 0;
        for (Field field : one.getDeclaredFields()) {
            Class<?> type = field.getType();
            if (Modifier.isStatic(field.getModifiers())) {
                check.holds(field + " is final", Modifier.isFinal(field.getModifiers()));
                check.holds(field + " is a constant", type == int.class || type == long.class || type == boolean.class
                    || type == char.class || type == String.class || type == int[].class || type == long[].class
                    || type == char[].class || type == byte[].class);
            } else {
                fields++;
                check.holds(field + " has a type of the rules", type.isPrimitive() || type.isArray() || classes.contains(type)
                    || List.of("java.lang.String", "java.lang.StringBuilder", "java.util.ArrayList", "java.util.List")
                        .contains(type.getName()));
            }
        }
        check.holds(one + " has at most " + FIELDS + " fields", fields <= FIELDS);
        for (Method method : one.getDeclaredMethods()) {
            check.holds(method + " has few parameters", method.getParameterCount() <= PARAMETERS);
        }
    }

    // ---- what the classes refer to

    private void references(Class<?> one) throws IOException {
        for (String reference : referred(one)) {
            boolean own = reference.startsWith(OWN);
            boolean known = own || reference.matches("\\[+[IJCBSZDF]\\.clone");
            for (String allowed : LIBRARY) {
                known |= reference.matches(allowed);
            }
            check.holds(one.getName() + " refers to " + reference + ", which stands in the rules", known);
        }
    }

    /** Methods and fields that the constant pool of a class refers to; what is bound at run time by itself. */
    private static List<String> referred(Class<?> one) throws IOException {
        byte[] bytes;
        try (InputStream in = one.getResourceAsStream(one.getName() + ".class")) {
            bytes = in.readAllBytes();
        }
        DataInputStream in = new DataInputStream(new ByteArrayInputStream(bytes));
        in.skipBytes(8);
        int many = in.readUnsignedShort();
        String[] texts = new String[many];
        int[][] parts = new int[many][];
        for (int p = 1; p < many; p++) {
            int tag = in.readUnsignedByte();
            switch (tag) {
                case 1 -> texts[p] = in.readUTF();
                case 3, 4 -> in.skipBytes(4);
                case 5, 6 -> {
                    in.skipBytes(8);
                    p++;
                }
                case 7, 8, 16, 19, 20 -> parts[p] = new int[] {tag, in.readUnsignedShort()};
                case 15 -> in.skipBytes(3);
                default -> parts[p] = new int[] {tag, in.readUnsignedShort(), in.readUnsignedShort()};
            }
        }
        List<String> result = new ArrayList<>();
        for (int[] part : parts) {
            if (part != null && part[0] >= 9 && part[0] <= 11) {
                result.add(texts[parts[part[1]][1]] + "." + texts[parts[part[2]][1]]);
            } else if (part != null && part[0] >= 17) {
                result.add("what is bound at run time (" + part[0] + ")");
            }
        }
        return result;
    }
}
