import java.lang.reflect.Constructor;
import java.lang.reflect.Field;
import java.lang.reflect.Method;
import java.lang.reflect.Modifier;
import java.nio.charset.StandardCharsets;
import java.nio.file.Files;
import java.nio.file.Path;
import java.util.ArrayList;
import java.util.List;
import java.util.TreeSet;
import java.util.regex.Matcher;
import java.util.regex.Pattern;

/** The public face is the document's code block, whole and alone. */
public final class FaceTest {
    private static final Path DOCUMENT = Path.of("../shared/DOC.md");

    public static void main(String[] args) throws Exception {
        Check check = new Check();
        check.part("face");
        face(check, Files.readString(DOCUMENT, StandardCharsets.UTF_8));
        check.finish("FaceTest");
    }

    private static void face(Check check, String document) {
        TreeSet<String> due = new TreeSet<>();
        Matcher line = Pattern.compile("public (int|long|boolean) (\\w+)\\((.*)\\)( throws NoSuchElementException)?;")
            .matcher(document);
        while (line.find()) {
            List<String> types = new ArrayList<>();
            for (String parameter : line.group(3).isEmpty() ? new String[0] : line.group(3).split(", ")) {
                types.add(parameter.split(" ")[0]);
            }
            due.add(line.group(1) + " " + line.group(2) + types + (line.group(4) == null ? "" : " throws"));
        }
        check.due("methods in the document", due.size(), 51);
        TreeSet<String> got = new TreeSet<>();
        for (Method method : EvenTrees.class.getDeclaredMethods()) {
            if (Modifier.isPublic(method.getModifiers())) {
                List<String> types = new ArrayList<>();
                for (Class<?> type : method.getParameterTypes()) {
                    types.add(type.getName());
                }
                got.add(method.getReturnType().getName() + " " + method.getName() + types
                    + (method.getExceptionTypes().length == 0 ? "" : " throws"));
            } else if (!method.isSynthetic()) {
                check.holds(method + " is private", Modifier.isPrivate(method.getModifiers()));
                check.holds(method + " has a name of its own", !due.toString().contains(" " + method.getName() + "["));
            }
        }
        check.holds("methods " + got + " are " + due, got.equals(due));
        for (Field field : EvenTrees.class.getDeclaredFields()) {
            boolean none = field.getName().equals("NONE");
            check.holds(field + " is private, or NONE", none == Modifier.isPublic(field.getModifiers())
                && none != Modifier.isPrivate(field.getModifiers()));
        }
        Constructor<?>[] constructors = EvenTrees.class.getDeclaredConstructors();
        check.due("constructors", constructors.length, 1);
        check.holds("the constructor is public", Modifier.isPublic(constructors[0].getModifiers()));
        check.holds("the class is public and final", EvenTrees.class.getModifiers() == (Modifier.PUBLIC | Modifier.FINAL));
        check.due("NONE", EvenTrees.NONE, -1);
        for (Class<?> inside : EvenTrees.class.getDeclaredClasses()) {
            check.holds(inside + " is private or package-visible",
                !Modifier.isPublic(inside.getModifiers()) && !Modifier.isProtected(inside.getModifiers()));
        }
    }
}
