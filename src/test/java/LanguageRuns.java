import java.io.IOException;
import java.lang.reflect.Constructor;
import java.lang.reflect.Field;
import java.lang.reflect.Method;
import java.lang.reflect.Modifier;
import java.nio.file.Files;
import java.nio.file.Path;
import java.util.List;
import java.util.Set;
import java.util.TreeSet;

/** The public face, and those rules of LANGUAGE.md that the class file and the words of the source tell. */
public final class LanguageRuns {
    private static final Set<String> FACE = Set.of(
        "int plan(int, int, int, int, int)", "int scrap()", "int draft(int, int, int)", "int letters(int, int, int)",
        "int write(int, boolean)", "int remove(int)", "int read(int, boolean)", "int seen()", "long value(int)",
        "int letter(int, int)", "int next(int, boolean)", "int more(int, boolean)", "int begin()", "int finish()",
        "int rollback()", "int backfill()", "int crash(int)", "int restart()", "boolean isDown()", "int count(int)",
        "int column(int, boolean)");

    public static void main(String[] args) throws IOException {
        face();
        members();
        words();
        Due.end();
    }

    private static void face() {
        Set<String> found = new TreeSet<>();
        for (Method method : ShiftHouse.class.getDeclaredMethods()) {
            if (Modifier.isPublic(method.getModifiers())) {
                found.add(signature(method));
            }
        }
        Due.is("the public methods " + found + " are the face", found.equals(FACE), true);
        Due.is("public constructors", ShiftHouse.class.getConstructors().length, 1);
        Due.is("all constructors", ShiftHouse.class.getDeclaredConstructors().length, 1);
        Constructor<?> only = ShiftHouse.class.getConstructors()[0];
        Due.is("its parameters", only.getParameterCount(), 0);
        Due.is("public and final", ShiftHouse.class.getModifiers(), Modifier.PUBLIC | Modifier.FINAL);
    }

    private static String signature(Method method) {
        StringBuilder text = new StringBuilder();
        for (Class<?> type : method.getParameterTypes()) {
            text.append(text.isEmpty() ? "" : ", ").append(type.getName());
        }
        return method.getReturnType().getName() + " " + method.getName() + "(" + text + ")";
    }

    private static void members() {
        Set<String> publicNames = new TreeSet<>();
        for (String signature : FACE) {
            publicNames.add(signature.substring(signature.indexOf(' ') + 1, signature.indexOf('(')));
        }
        for (Method method : ShiftHouse.class.getDeclaredMethods()) {
            boolean isPrivate = Modifier.isPrivate(method.getModifiers());
            Due.is(method + " is private or of the face", isPrivate || FACE.contains(signature(method)), true);
            Due.is(method + " bears a public name", isPrivate && publicNames.contains(method.getName()), false);
        }
        for (Field field : ShiftHouse.class.getDeclaredFields()) {
            Due.is(field + " is private", Modifier.isPrivate(field.getModifiers()), true);
        }
        for (Class<?> inside : ShiftHouse.class.getDeclaredClasses()) {
            Due.is(inside + " is static", Modifier.isStatic(inside.getModifiers()), true);
            for (Method method : inside.getDeclaredMethods()) {
                Due.is(method + " bears a public name", publicNames.contains(method.getName()), false);
            }
            for (Field field : inside.getDeclaredFields()) {
                boolean isState = Modifier.isStatic(field.getModifiers()) && !Modifier.isFinal(field.getModifiers());
                Due.is(field + " is static and changes", isState, false);
            }
        }
    }

    private static void words() throws IOException {
        String source = Files.readString(Path.of("src/main/java/ShiftHouse.java"));
        String code = source.replaceAll("(?s)/\\*.*?\\*/", " ").replaceAll("//[^\n]*", " ");
        Set<String> words = new TreeSet<>(List.of(code.split("[^A-Za-z_]+")));
        String[] ruledOut = {"import", "package", "throw", "throws", "try", "catch", "synchronized", "assert", "Random",
            "Thread", "protected", "native", "transient", "volatile"};
        for (String word : ruledOut) {
            Due.is("the word " + word + " stands in the source", words.contains(word), false);
        }
        Due.is("a lambda", code.contains("->"), false);
        Due.is("a method reference", code.contains("::"), false);
    }
}
