import java.io.IOException;
import java.lang.reflect.Constructor;
import java.lang.reflect.Field;
import java.lang.reflect.Method;
import java.lang.reflect.Modifier;
import java.nio.file.Files;
import java.nio.file.Path;
import java.util.ArrayList;
import java.util.List;
import java.util.Set;
import java.util.TreeSet;
import java.util.regex.Pattern;

/** Rules of LANGUAGE.md that can be looked up in the class and its file (rules 1, 2, 4, 5, 6, 11). */
public final class LanguageTest {
    private static final Set<String> FACE = new TreeSet<>(List.of(
        "boolean type(long,int)", "boolean sizes(int,int,int,int,int,int)", "int assemble()", "int fault(int)",
        "int step(int)", "int drain(int)", "boolean deliver(int)", "boolean deliverOn(int,int)", "int run(int)",
        "int play()", "int trace(int,int,int)", "int core(int,int)", "int cached(int,int)", "int copy(int,int)",
        "int home(int,int)", "int waiting(int)", "int memory(int)", "int word(int)", "int message(int,int)",
        "int total(int)"));

    public static void main(String[] args) throws IOException {
        face();
        inside();
        text(Files.readString(Path.of("src/main/java/CoreHouse.java")));
        Check.end();
    }

    private static void face() {
        Class<?> house = CoreHouse.class;
        Check.yes("public and final", Modifier.isPublic(house.getModifiers()) && Modifier.isFinal(house.getModifiers()));
        Set<String> seen = new TreeSet<>();
        for (Method method : house.getDeclaredMethods()) {
            if (Modifier.isPublic(method.getModifiers())) {
                List<String> types = new ArrayList<>();
                for (Class<?> type : method.getParameterTypes()) {
                    types.add(type.getName());
                }
                seen.add(method.getReturnType().getName() + " " + method.getName() + "(" + String.join(",", types) + ")");
            } else {
                Check.yes("private: " + method, Modifier.isPrivate(method.getModifiers()));
            }
        }
        Check.yes("the methods of the face: " + seen, seen.equals(FACE));
        Constructor<?>[] made = house.getDeclaredConstructors();
        Check.yes("one public constructor", made.length == 1 && Modifier.isPublic(made[0].getModifiers())
            && made[0].getParameterCount() == 0);
        for (Field field : house.getDeclaredFields()) {
            boolean none = field.getName().equals("NONE");
            Check.yes("private but for NONE: " + field,
                none ? Modifier.isPublic(field.getModifiers()) : Modifier.isPrivate(field.getModifiers()));
        }
    }

    private static void inside() {
        Set<String> names = new TreeSet<>();
        for (Method method : CoreHouse.class.getDeclaredMethods()) {
            if (Modifier.isPublic(method.getModifiers())) {
                names.add(method.getName());
            }
        }
        Class<?>[] classes = CoreHouse.class.getDeclaredClasses();
        Check.yes("at most twelve classes", classes.length + 1 <= 12);
        for (Class<?> one : classes) {
            int modifiers = one.getModifiers();
            Check.yes("static and not public: " + one, Modifier.isStatic(modifiers)
                && !Modifier.isPublic(modifiers) && !Modifier.isProtected(modifiers));
            for (Method method : one.getDeclaredMethods()) {
                Check.no("has a name of the face: " + method, names.contains(method.getName()));
                Check.yes("at most seven parameters: " + method, method.getParameterCount() <= 7);
            }
            fields(one);
        }
        fields(CoreHouse.class);
    }

    private static void fields(Class<?> one) {
        int count = 0;
        for (Field field : one.getDeclaredFields()) {
            if (Modifier.isStatic(field.getModifiers())) {
                Check.yes("final: " + field, Modifier.isFinal(field.getModifiers()));
            } else {
                count++;
            }
        }
        Check.yes("at most twenty fields: " + one, count <= 20);
    }

    private static void text(String text) {
        String[] forbidden = {"->", "::", "\\btry\\b", "\\bcatch\\b", "\\bfinally\\b", "\\bsynchronized\\b", "\\bassert\\b",
            "\\binstanceof\\b", "System\\.(?!arraycopy)", "Arrays\\.(?!fill|copyOf)", "Math\\.(?!min|max)", "Exact\\(",
            "\\bpackage\\b", "static \\{", "\\bdouble\\b", "\\bfloat\\b", "import (?!java\\.util\\.(Arrays|NoSuchElementException);)",
            "@", "\\bThread\\b", "\\bRandom\\b", "while \\(true\\)", "for \\(;;\\)"};
        for (String one : forbidden) {
            Check.no("the file has " + one, Pattern.compile(one).matcher(text).find());
        }
        int begins = 0;
        String[] lines = text.split("\n");
        for (int i = 0; i < lines.length; i++) {
            boolean outer = lines[i].startsWith("    ") && lines[i].matches(" {4}(?: {4})?[a-zA-Z].*\\{");
            if (outer && lines[i].contains("(")) {
                begins = i;
            }
            if (lines[i].matches(" {4}(?: {4})?\\}")) {
                Check.yes("a method of at most sixty lines ends at " + (i + 1), i - begins < 60 || lines[i].equals("    }"));
            }
            Check.yes("a line of characters 32 to 126: " + (i + 1), lines[i].matches("[ -~]*"));
        }
    }
}
