import java.io.IOException;
import java.lang.reflect.Constructor;
import java.lang.reflect.Field;
import java.lang.reflect.Method;
import java.lang.reflect.Modifier;
import java.nio.file.Files;
import java.nio.file.Path;
import java.util.ArrayList;
import java.util.Arrays;
import java.util.List;
import java.util.TreeSet;
import java.util.regex.Matcher;
import java.util.regex.Pattern;

/** The document's face and no more, and the rules of LANGUAGE.md that a machine can look at. */
public final class FaceTest {
    private static final Check CHECK = new Check();
    private static final Path SOURCE = Path.of("src/main/java/PitchSquare.java");
    private static final String[] FACE = {
        "int status()", "int strip()", "boolean set(int, int, int, int, int, int, int)",
        "int told(int, int)", "boolean weather(int, int, int, boolean)", "boolean work(int, int)",
        "boolean play(int, int)", "int step()", "int day()", "boolean measure(int, int, int)",
        "boolean reads(int, int)", "int plan(int, int, int, int)", "int planned(int)",
        "int feed(int, int, int, int, int)", "int rules(int)", "int fault(int)", "int rate(int)",
        "int when(int, int, int)", "int match(int, int)", "boolean worth(int, int, int)",
        "boolean rests(int, int)", "int give()", "int given(int)", "boolean mark(int, int, int)",
        "boolean part(int)", "boolean fair(int)", "long upper()", "long lower()"};

    public static void main(String[] args) throws IOException {
        publicFace();
        privateNames();
        noOtherMembers();
        nestedClasses();
        wordsOfTheSource();
        CHECK.end();
    }

    private static String shape(Method method) {
        List<String> types = new ArrayList<>();
        for (Class<?> type : method.getParameterTypes()) {
            types.add(type.getName());
        }
        return method.getReturnType().getName() + " " + method.getName()
                + "(" + String.join(", ", types) + ")";
    }

    private static void publicFace() {
        TreeSet<String> found = new TreeSet<>();
        for (Method method : PitchSquare.class.getDeclaredMethods()) {
            if (!Modifier.isPrivate(method.getModifiers())) {
                CHECK.due("modifiers of " + method, method.getModifiers(), Modifier.PUBLIC);
                found.add(shape(method));
            }
        }
        TreeSet<String> want = new TreeSet<>(Arrays.asList(FACE));
        CHECK.yes("methods are " + found, found.equals(want));
        CHECK.yes("the class is public and final",
                PitchSquare.class.getModifiers() == (Modifier.PUBLIC | Modifier.FINAL));
        CHECK.due("NONE", PitchSquare.NONE, -1);
    }

    private static TreeSet<String> faceNames() {
        TreeSet<String> names = new TreeSet<>();
        for (String method : FACE) {
            names.add(method.replaceAll(".* ([a-z]+)\\(.*", "$1"));
        }
        return names;
    }

    private static void privateNames() {
        TreeSet<String> faceNames = faceNames();
        for (Method method : PitchSquare.class.getDeclaredMethods()) {
            if (Modifier.isPrivate(method.getModifiers())) {
                CHECK.no(method + " bears a name of the face",
                        faceNames.contains(method.getName()));
                CHECK.yes(method + " takes seven at most", method.getParameterCount() <= 7);
            }
        }
    }

    private static void noOtherMembers() {
        Constructor<?>[] constructors = PitchSquare.class.getDeclaredConstructors();
        CHECK.due("constructors", constructors.length, 1);
        CHECK.due("parameters", constructors[0].getParameterCount(), 0);
        CHECK.yes("public constructor", Modifier.isPublic(constructors[0].getModifiers()));
        for (Field field : PitchSquare.class.getDeclaredFields()) {
            boolean isConstant = field.getName().equals("NONE");
            CHECK.yes(field + " is private", isConstant
                    ? Modifier.isPublic(field.getModifiers())
                    : Modifier.isPrivate(field.getModifiers()));
        }
    }

    private static void nestedClasses() {
        TreeSet<String> faceNames = faceNames();
        Class<?>[] inside = PitchSquare.class.getDeclaredClasses();
        CHECK.yes("at most some twelve classes", inside.length < 12);
        for (Class<?> each : inside) {
            CHECK.yes(each + " is static", Modifier.isStatic(each.getModifiers()));
            CHECK.no(each + " is public or protected",
                    (each.getModifiers() & (Modifier.PUBLIC | Modifier.PROTECTED)) != 0);
            int fields = 0;
            for (Field field : each.getDeclaredFields()) {
                boolean isStatic = Modifier.isStatic(field.getModifiers());
                fields += isStatic ? 0 : 1;
                CHECK.yes(field + ": static ones are final",
                        !isStatic || Modifier.isFinal(field.getModifiers()));
            }
            CHECK.yes(each + " has some twenty fields at most", fields <= 20);
            for (Method method : each.getDeclaredMethods()) {
                CHECK.no(method + " bears a name of the face",
                        faceNames.contains(method.getName()));
                CHECK.yes(method + " takes seven at most", method.getParameterCount() <= 7);
            }
        }
    }

    private static void wordsOfTheSource() throws IOException {
        String code = Files.readString(SOURCE)
                .replaceAll("(?s)/\\*.*?\\*/", " ")
                .replaceAll("//[^\n]*", " ")
                .replaceAll("\"[^\"\n]*\"", "\"\"");
        String[] banned = {"\\bthrow\\b", "\\bthrows\\b", "\\btry\\b", "\\bcatch\\b",
            "\\bsynchronized\\b", "\\bassert\\b", "\\bpackage\\b", "\\bprotected\\b", "->", "::",
            "\\bequals\\b", "\\bhashCode\\b", "\\btoString\\b", "Exact\\b", "\\bRandom\\b",
            "\\bSystem\\b", "\\bThread\\b", "\\bfloat\\b", "\\bdouble\\b", "\\bimport\\b",
            "\\bstatic\\s*\\{", "\\bObject\\b"};
        for (String word : banned) {
            Matcher matcher = Pattern.compile(word).matcher(code);
            CHECK.no("the source has " + word, matcher.find());
        }
    }
}
