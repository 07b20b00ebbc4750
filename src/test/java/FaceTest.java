import java.io.IOException;
import java.lang.reflect.Constructor;
import java.lang.reflect.Field;
import java.lang.reflect.Method;
import java.lang.reflect.Modifier;
import java.nio.file.Files;
import java.nio.file.Path;
import java.util.ArrayList;
import java.util.Collections;
import java.util.HashSet;
import java.util.List;
import java.util.Set;
import java.util.regex.Matcher;
import java.util.regex.Pattern;

/** The public face of the document and those rules of LANGUAGE.md that a look at the text can tell. */
public final class FaceTest {
    private static final String[] METHODS = {
        "kite 0", "panel 4", "knot 2", "table 3", "force 4", "stands 2", "steady 2", "pull 3", "trim 4",
        "wind 2", "line 3", "tie 3", "untie 1", "weaken 2", "ofLine 2", "step 3", "part 1", "least 2",
        "flyer 2", "blow 2", "tree 1", "agree 3", "fly 2", "why 1", "cone 2",
        "turn 3", "tangled 2", "undo 1", "unwind 1", "cut 3", "count 1"};
    private static int wrong = 0;

    private static void check(boolean right, String fault) {
        if (!right) {
            wrong++;
            System.out.println(fault);
        }
    }

    public static void main(String[] args) throws IOException {
        methods();
        constructorAndFields();
        nested();
        source();
        System.out.println(wrong == 0 ? "the face and the rules are kept" : wrong + " faults");
        if (wrong != 0) {
            System.exit(1);
        }
    }

    private static boolean isPrivate(int modifiers) {
        return Modifier.isPrivate(modifiers);
    }

    private static void methods() {
        List<String> found = new ArrayList<>();
        Set<String> names = new HashSet<>();
        for (Method m : BridleBook.class.getDeclaredMethods()) {
            if (Modifier.isPublic(m.getModifiers())) {
                found.add(m.getName() + " " + m.getParameterCount());
                names.add(m.getName());
                check(m.getReturnType() == int.class, m + " does not answer an int");
                for (Class<?> type : m.getParameterTypes()) {
                    check(type == int.class, m + " takes another type than int");
                }
            } else {
                check(isPrivate(m.getModifiers()) || m.isSynthetic(), m + " is neither public nor private");
            }
            check(m.getParameterCount() <= 7, m + " takes too much");
        }
        List<String> want = new ArrayList<>(List.of(METHODS));
        Collections.sort(found);
        Collections.sort(want);
        check(found.equals(want), "public methods are " + found);
        for (Method m : BridleBook.class.getDeclaredMethods()) {
            check(!isPrivate(m.getModifiers()) || !names.contains(m.getName()), m + " bears a public name");
        }
    }

    private static void constructorAndFields() {
        check(Modifier.isFinal(BridleBook.class.getModifiers()), "the class is not final");
        check(Modifier.isPublic(BridleBook.class.getModifiers()), "the class is not public");
        Constructor<?>[] constructors = BridleBook.class.getDeclaredConstructors();
        check(constructors.length == 1 && constructors[0].getParameterCount() == 0
            && Modifier.isPublic(constructors[0].getModifiers()), "constructors");
        List<String> open = new ArrayList<>();
        for (Field f : BridleBook.class.getDeclaredFields()) {
            if (!isPrivate(f.getModifiers())) {
                open.add(f.getName());
            }
            check(!Modifier.isStatic(f.getModifiers()) || Modifier.isFinal(f.getModifiers()), f + " is not final");
        }
        Collections.sort(open);
        check(open.equals(List.of("BAD", "FULL", "NOT", "VOID")), "open fields are " + open);
    }

    private static void nested() {
        Class<?>[] classes = BridleBook.class.getDeclaredClasses();
        check(classes.length <= 12, classes.length + " classes");
        for (Class<?> c : classes) {
            check(Modifier.isStatic(c.getModifiers()), c + " is not static");
            check(!Modifier.isPublic(c.getModifiers()) && !Modifier.isProtected(c.getModifiers()), c + " is open");
        }
    }

    private static void source() throws IOException {
        String text = Files.readString(Path.of("src/main/java/BridleBook.java"));
        for (int i = 0; i < text.length(); i++) {
            check(text.charAt(i) < 128, "a sign above 127 at " + i);
        }
        String code = text.replaceAll("(?s)/\\*.*?\\*/", " ").replaceAll("//[^\n]*", " ");
        String[] words = {"throw", "try", "catch", "synchronized", "assert", "package", "protected",
            "float", "double", "equals", "hashCode", "toString", "Object", "System", "Random"};
        for (String word : words) {
            check(!Pattern.compile("\\b" + word + "\\b").matcher(code).find(), "the code has '" + word + "'");
        }
        check(!code.contains("->") && !code.contains("::"), "a lambda or a method reference");
        check(!Pattern.compile("\\w+Exact\\b").matcher(code).find(), "a function that ends in Exact");
        Matcher imports = Pattern.compile("import\\s+([\\w.*]+)").matcher(code);
        while (imports.find()) {
            check(imports.group(1).equals("java.util.Arrays"), "import of " + imports.group(1));
        }
    }
}
