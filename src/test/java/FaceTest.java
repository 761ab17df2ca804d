import java.io.IOException;
import java.lang.reflect.Constructor;
import java.lang.reflect.Field;
import java.lang.reflect.Method;
import java.lang.reflect.Modifier;
import java.nio.charset.StandardCharsets;
import java.nio.file.Files;
import java.nio.file.Path;
import java.util.ArrayList;
import java.util.Arrays;
import java.util.Collections;
import java.util.List;
import java.util.Set;
import java.util.TreeSet;
import java.util.regex.Matcher;
import java.util.regex.Pattern;

/** The public face is just the document's, and the source keeps to what can be seen of the rules. */
public final class FaceTest {
    private static final Checks CHECKS = new Checks("FaceTest");
    private static final Path SOURCE = Path.of("src/main/java/NightWater.java");

    private static final String[] METHODS = {
        "int zone(int,int)", "int rules(int,int)", "int read(int,int,boolean,int)",
        "int low(int,int)", "int leaks(int,int)", "int valve(int,int)", "int group(int,int)",
        "int explains(int)", "int fewest()", "int sample(int,int,int)",
        "int echo(int,int,int,int)", "int sum(int,int)", "int delay(boolean)",
        "int place(int,int,int,int)", "int section(int,int,int)", "int cost(int,int)",
        "int closes(int,int)", "int closings(int)", "int dig(int,int)", "int clear()",
        "int lost()", "int order(int)", "int pulled(int,int,int)", "int count(int)",
        "long digest()"
    };

    public static void main(String[] args) throws IOException {
        constants();
        publicMethods();
        constructorAndFields();
        innerClasses();
        sourceWords();
        CHECKS.finish();
    }

    private static void constants() {
        CHECKS.due("NONE", NightWater.NONE, -1);
        CHECKS.due("BAD", NightWater.BAD, -2);
        CHECKS.due("NO", NightWater.NO, -3);
        CHECKS.due("FULL", NightWater.FULL, -4);
        CHECKS.due("NOT", NightWater.NOT, -2000000000);
    }

    private static void publicMethods() {
        List<String> face = new ArrayList<>();
        Set<String> names = new TreeSet<>();
        for (Method method : NightWater.class.getDeclaredMethods()) {
            if (Modifier.isPublic(method.getModifiers())) {
                CHECKS.holds(method + " is of the object", !Modifier.isStatic(method.getModifiers()));
                face.add(signature(method));
                names.add(method.getName());
            }
        }
        List<String> want = new ArrayList<>(Arrays.asList(METHODS));
        Collections.sort(face);
        Collections.sort(want);
        CHECKS.holds("the face is " + face, face.equals(want));
        for (Method method : NightWater.class.getDeclaredMethods()) {
            int modifiers = method.getModifiers();
            if (!Modifier.isPublic(modifiers)) {
                CHECKS.holds(method + " is private", Modifier.isPrivate(modifiers));
                CHECKS.holds(method + " has a name of its own", !names.contains(method.getName()));
            }
        }
    }

    private static String signature(Method method) {
        StringBuilder types = new StringBuilder();
        for (Class<?> type : method.getParameterTypes()) {
            types.append(types.length() == 0 ? "" : ",").append(type.getName());
        }
        return method.getReturnType().getName() + " " + method.getName() + "(" + types + ")";
    }

    private static void constructorAndFields() {
        int modifiers = NightWater.class.getModifiers();
        CHECKS.holds("public final", Modifier.isPublic(modifiers) && Modifier.isFinal(modifiers));
        Constructor<?>[] constructors = NightWater.class.getDeclaredConstructors();
        CHECKS.due("constructors", constructors.length, 1);
        CHECKS.holds("public", Modifier.isPublic(constructors[0].getModifiers()));
        CHECKS.due("its parameters", constructors[0].getParameterCount(), 0);
        Set<String> open = new TreeSet<>();
        for (Field field : NightWater.class.getDeclaredFields()) {
            if (!Modifier.isPrivate(field.getModifiers())) {
                open.add(field.getName());
            }
        }
        Set<String> want = new TreeSet<>(Arrays.asList("NONE", "BAD", "NO", "FULL", "NOT"));
        CHECKS.holds("open fields are " + open, open.equals(want));
    }

    private static void innerClasses() {
        Class<?>[] inner = NightWater.class.getDeclaredClasses();
        CHECKS.holds("some twelve classes", inner.length < 12);
        for (Class<?> one : inner) {
            int modifiers = one.getModifiers();
            CHECKS.holds(one + " is static", Modifier.isStatic(modifiers));
            CHECKS.holds(one + " is not open", !Modifier.isPublic(modifiers));
            int fields = 0;
            for (Field field : one.getDeclaredFields()) {
                boolean isStatic = Modifier.isStatic(field.getModifiers());
                fields += isStatic ? 0 : 1;
                CHECKS.holds(field + " is final", !isStatic || Modifier.isFinal(field.getModifiers()));
            }
            CHECKS.holds(one + " has few fields", fields <= 20);
        }
    }

    private static void sourceWords() throws IOException {
        String source = Files.readString(SOURCE, StandardCharsets.ISO_8859_1);
        for (char sign : source.toCharArray()) {
            if (sign > 126) {
                CHECKS.holds("a sign " + (int) sign, false);
            }
        }
        String code = withoutComments(source);
        String[] words = {
            "import", "package", "throw", "throws", "try", "catch", "finally", "synchronized",
            "assert", "native", "volatile", "transient", "yield", "var", "equals", "hashCode",
            "toString", "System", "Object", "Exception", "Random", "Thread", "Exact", "goto"
        };
        for (String word : words) {
            Matcher found = Pattern.compile("\\b" + word + "\\b").matcher(code);
            CHECKS.holds("no " + word, !found.find());
        }
        CHECKS.holds("no lambda", !code.contains("->"));
        CHECKS.holds("no method reference", !code.contains("::"));
        CHECKS.holds("no text", !code.contains("\""));
    }

    private static String withoutComments(String source) {
        return source.replaceAll("(?s)/\\*.*?\\*/", " ").replaceAll("//[^\n]*", " ");
    }
}
