import java.io.IOException;
import java.lang.reflect.Field;
import java.lang.reflect.Method;
import java.lang.reflect.Modifier;
import java.nio.file.Files;
import java.nio.file.Path;
import java.util.TreeSet;

/** The public face is the document's, to the letter, and nothing besides is seen from outside. */
public final class FaceTest {
    public static void main(String[] args) throws IOException {
        faceOfTheDocument();
        Check.end();
    }

    private static void faceOfTheDocument() throws IOException {
        TreeSet<String> due = new TreeSet<>();
        boolean inFace = false;
        for (String row : Files.readAllLines(Path.of("../shared/DOC.md"))) {
            if (row.startsWith("public final class Lampboard")) {
                inFace = true;
            } else if (inFace && row.equals("}")) {
                break;
            } else if (inFace && row.contains("(") && !row.contains("Lampboard()")) {
                due.add(shape(row));
            }
        }
        TreeSet<String> got = new TreeSet<>();
        TreeSet<String> hidden = new TreeSet<>();
        for (Method method : Lampboard.class.getDeclaredMethods()) {
            if (Modifier.isPrivate(method.getModifiers())) {
                hidden.add(method.getName());
            } else {
                got.add(shape(method));
                Check.is(method + " is public and of the object", method.getModifiers() == Modifier.PUBLIC);
            }
        }
        Check.same("methods of the face", due.size(), 44);
        for (String one : due) {
            Check.is(one + " is there", got.contains(one));
        }
        for (String one : got) {
            Check.is(one + " is in the document", due.contains(one));
            Check.is("no private method has the name in " + one, !hidden.contains(one.split(" ")[1]));
        }
        for (Field field : Lampboard.class.getDeclaredFields()) {
            Check.is(field + " is private", Modifier.isPrivate(field.getModifiers()));
        }
        Check.is("public and final", Lampboard.class.getModifiers() == (Modifier.PUBLIC | Modifier.FINAL));
        Check.same("constructors", Lampboard.class.getDeclaredConstructors().length, 1);
        Check.same("public constructors", Lampboard.class.getConstructors().length, 1);
    }

    /** "int patch int int throws ..." of a row of the document. */
    private static String shape(String row) {
        String text = row.trim().replace("public ", "").replace(";", "");
        int open = text.indexOf('(');
        int close = text.indexOf(')');
        StringBuilder shape = new StringBuilder(text.substring(0, open));
        for (String parameter : text.substring(open + 1, close).split(", ")) {
            shape.append(parameter.isEmpty() ? "" : " " + parameter.split(" ")[0]);
        }
        return shape + text.substring(close + 1);
    }

    private static String shape(Method method) {
        StringBuilder shape = new StringBuilder(method.getReturnType().getName() + " " + method.getName());
        for (Class<?> parameter : method.getParameterTypes()) {
            shape.append(" ").append(parameter.getName());
        }
        String before = " throws ";
        for (Class<?> thrown : method.getExceptionTypes()) {
            shape.append(before).append(thrown.getSimpleName());
            before = ", ";
        }
        return shape.toString();
    }
}
