import java.lang.reflect.Constructor;
import java.lang.reflect.Method;
import java.lang.reflect.Modifier;
import java.nio.charset.StandardCharsets;
import java.nio.file.Files;
import java.nio.file.Path;
import java.util.Set;
import java.util.TreeSet;

/** The face is the document's, with no member more, as rule 1 of LANGUAGE.md asks. */
public final class FaceTest {
    public static void main(String[] args) throws Exception {
        String document = Files.readString(Path.of("../shared/DOC.md"), StandardCharsets.UTF_8);
        Set<String> due = faceOf(document);
        Check.due("how many members the document has", due.size(), 36);
        Check.due("the face", faceOf(Waterline.class), due);
        Check.due("the class is public and final", Modifier.toString(Waterline.class.getModifiers()), "public final");
        for (Class<?> inside : Waterline.class.getDeclaredClasses()) {
            boolean closed = !Modifier.isPublic(inside.getModifiers()) && !Modifier.isProtected(inside.getModifiers());
            Check.due(inside.getSimpleName() + " is not public", closed, true);
        }
        for (Method method : Waterline.class.getDeclaredMethods()) {
            boolean known = Modifier.isPublic(method.getModifiers()) || Modifier.isPrivate(method.getModifiers());
            Check.due(method.getName() + " is public or private", known, true);
        }
        Check.end("FaceTest");
    }

    private static Set<String> faceOf(String document) {
        Set<String> found = new TreeSet<>();
        int start = document.indexOf("public final class Waterline {");
        String block = document.substring(start, document.indexOf("```", start));
        for (String line : block.split("\n")) {
            String text = line.trim();
            if (text.startsWith("public ") && text.endsWith(";")) {
                found.add(withoutNames(text));
            }
        }
        return found;
    }

    /** "public int of(int variable) throws X;" is told as "int of(int) throws X". */
    private static String withoutNames(String text) {
        int open = text.indexOf('(');
        int close = text.indexOf(')');
        StringBuilder told = new StringBuilder(text.substring("public ".length(), open + 1));
        if (close > open + 1) {
            String between = "";
            for (String parameter : text.substring(open + 1, close).split(", ")) {
                told.append(between).append(parameter.split(" ")[0]);
                between = ", ";
            }
        }
        return told.append(text, close, text.length() - 1).toString();
    }

    private static Set<String> faceOf(Class<?> program) {
        Set<String> found = new TreeSet<>();
        for (Constructor<?> constructor : program.getDeclaredConstructors()) {
            found.add(program.getSimpleName() + told(constructor.getParameterTypes(), constructor.getExceptionTypes()));
        }
        for (Method method : program.getDeclaredMethods()) {
            if (!Modifier.isPrivate(method.getModifiers())) {
                found.add(method.getReturnType().getSimpleName() + " " + method.getName()
                        + told(method.getParameterTypes(), method.getExceptionTypes()));
            }
        }
        return found;
    }

    private static String told(Class<?>[] parameters, Class<?>[] exceptions) {
        StringBuilder told = new StringBuilder("(");
        String between = "";
        for (Class<?> parameter : parameters) {
            told.append(between).append(parameter.getSimpleName());
            between = ", ";
        }
        told.append(")");
        between = " throws ";
        for (Class<?> exception : exceptions) {
            told.append(between).append(exception.getSimpleName());
            between = ", ";
        }
        return told.toString();
    }
}
