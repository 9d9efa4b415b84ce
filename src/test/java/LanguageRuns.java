import java.io.IOException;
import java.lang.reflect.Constructor;
import java.lang.reflect.Field;
import java.lang.reflect.Member;
import java.lang.reflect.Method;
import java.lang.reflect.Modifier;
import java.nio.file.Files;
import java.nio.file.Path;
import java.util.ArrayList;
import java.util.List;
import java.util.Set;
import java.util.TreeSet;

/** Those rules of LANGUAGE.md that the class file and the words of the source tell. */
public final class LanguageRuns {
    private static final Set<String> IMPORTS =
        Set.of("java.util.ArrayList", "java.util.Arrays", "java.util.Iterator", "java.util.List");
    private static final Set<Class<?>> CONSTANTS = Set.of(int.class, long.class, boolean.class, char.class,
        String.class, int[].class, long[].class, char[].class, byte[].class);

    public static void main(String[] args) throws IOException {
        face();
        classesInside();
        words();
        Due.end();
    }

    /** Rule 1. Which public members the face has is told by the document: BoundaryFaceRuns. */
    private static void face() {
        Set<String> publicNames = new TreeSet<>();
        for (Method method : ShiftHouse.class.getDeclaredMethods()) {
            if (Modifier.isPublic(method.getModifiers())) {
                publicNames.add(method.getName());
            }
        }
        for (Method method : ShiftHouse.class.getDeclaredMethods()) {
            isPublicOrPrivate(method);
        }
        for (Constructor<?> made : ShiftHouse.class.getDeclaredConstructors()) {
            isPublicOrPrivate(made);
        }
        for (Field field : ShiftHouse.class.getDeclaredFields()) {
            isPublicOrPrivate(field);
        }
        for (Class<?> each : allClasses()) {
            for (Method method : each.getDeclaredMethods()) {
                boolean isHidden = Modifier.isPrivate(method.getModifiers());
                Due.is(method + " bears a public name", isHidden && publicNames.contains(method.getName()), false);
                Due.is(method + " has more than seven parameters", method.getParameterCount() > 7, false);
            }
        }
    }

    private static void isPublicOrPrivate(Member member) {
        boolean isEither = Modifier.isPublic(member.getModifiers()) || Modifier.isPrivate(member.getModifiers());
        Due.is(member + " is public or private", isEither || member.isSynthetic(), true);
    }

    private static List<Class<?>> allClasses() {
        List<Class<?>> all = new ArrayList<>(List.of(ShiftHouse.class.getDeclaredClasses()));
        all.add(ShiftHouse.class);
        return all;
    }

    /** Rules 2, 5 and 6. */
    private static void classesInside() {
        for (Class<?> inside : ShiftHouse.class.getDeclaredClasses()) {
            Due.is(inside + " is static", Modifier.isStatic(inside.getModifiers()), true);
            Due.is(inside + " is public or protected",
                (inside.getModifiers() & (Modifier.PUBLIC | Modifier.PROTECTED)) != 0, false);
        }
        for (Class<?> each : allClasses()) {
            for (Field field : each.getDeclaredFields()) {
                if (Modifier.isStatic(field.getModifiers()) && !field.isSynthetic()) {
                    Due.is(field + " is final", Modifier.isFinal(field.getModifiers()), true);
                    boolean isOfEnum = field.isEnumConstant() || field.getType().isArray()
                        && field.getType().getComponentType().isEnum();
                    Due.is(field + " is a constant", isOfEnum || CONSTANTS.contains(field.getType()), true);
                }
            }
        }
    }

    /** Rules 2, 4, 6 and 13. */
    private static void words() throws IOException {
        String source = Files.readString(Path.of("src/main/java/ShiftHouse.java"));
        String code = source.replaceAll("(?s)/\\*.*?\\*/", " ").replaceAll("//[^\n]*", " ");
        Set<String> words = new TreeSet<>(List.of(code.split("[^A-Za-z_]+")));
        String[] ruledOut = {"package", "throw", "try", "catch", "synchronized", "assert", "Random", "Thread"};
        for (String word : ruledOut) {
            Due.is("the word " + word + " stands in the source", words.contains(word), false);
        }
        Due.is("a method reference", code.contains("::"), false);
        for (String line : code.split("\n")) {
            String text = line.strip();
            boolean isCase = text.startsWith("case ") || text.startsWith("default ");
            Due.is("a lambda: " + text, text.contains("->") && !isCase, false);
            if (text.startsWith("import ")) {
                Due.is(text, IMPORTS.contains(text.substring(7).replace(";", "").strip()), true);
            }
        }
    }
}
