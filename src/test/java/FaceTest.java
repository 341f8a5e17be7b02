import java.io.IOException;
import java.lang.reflect.Constructor;
import java.lang.reflect.Field;
import java.lang.reflect.Method;
import java.lang.reflect.Modifier;
import java.nio.file.Files;
import java.nio.file.Path;
import java.util.Map;
import java.util.Set;
import java.util.TreeMap;
import java.util.TreeSet;
import java.util.regex.Pattern;

/** The class shows the document's face and nothing else, and its text keeps to the rules that can be seen in it. */
public final class FaceTest {
    /** Each public method with the number of its parameters, all of which are int. */
    private static final Map<String, Integer> FACE = new TreeMap<>(Map.ofEntries(
        Map.entry("letter", 1), Map.entry("tongue", 0), Map.entry("word", 2), Map.entry("weight", 1),
        Map.entry("truth", 1), Map.entry("law", 1), Map.entry("row", 1), Map.entry("means", 0),
        Map.entry("follows", 2), Map.entry("settles", 1), Map.entry("answer", 2), Map.entry("answers", 1),
        Map.entry("least", 2), Map.entry("left", 1), Map.entry("best", 2), Map.entry("force", 2),
        Map.entry("told", 1), Map.entry("meant", 1), Map.entry("chance", 2), Map.entry("say", 0),
        Map.entry("saying", 2), Map.entry("known", 0), Map.entry("silence", 0), Map.entry("longest", 1),
        Map.entry("last", 1), Map.entry("idle", 1), Map.entry("under", 2), Map.entry("lots", 3),
        Map.entry("image", 0), Map.entry("on", 0), Map.entry("count", 1)));
    private static final String[] FORBIDDEN = {"throw", "throws", "try", "catch", "synchronized", "assert", "protected",
        "->", "::", "Exact\\(", "package ", "Random", "System\\.(?!arraycopy)", "import (?!java\\.util\\.Arrays;)"};

    private static int wrong = 0;

    public static void main(String[] args) throws IOException {
        checkClass();
        checkMethods();
        checkFields();
        checkClassesInside();
        if (args.length == 1) {
            checkText(Files.readString(Path.of(args[0])));
        }
        System.out.println(wrong == 0 ? "FaceTest: the face is as due" : "FaceTest: " + wrong + " things are wrong");
        if (wrong > 0) {
            System.exit(1);
        }
    }

    private static void must(boolean holds, String what) {
        if (!holds) {
            wrong++;
            System.out.println(what);
        }
    }

    private static void checkClass() {
        int m = AnswerShorter.class.getModifiers();
        must(Modifier.isPublic(m) && Modifier.isFinal(m), "the class is not public and final");
        Constructor<?>[] made = AnswerShorter.class.getDeclaredConstructors();
        must(made.length == 1 && made[0].getParameterCount() == 0 && Modifier.isPublic(made[0].getModifiers()),
            "not the one public constructor");
    }

    private static void checkMethods() {
        Map<String, Integer> seen = new TreeMap<>();
        Set<String> hidden = new TreeSet<>();
        for (Method method : AnswerShorter.class.getDeclaredMethods()) {
            if (Modifier.isPrivate(method.getModifiers())) {
                hidden.add(method.getName());
                continue;
            }
            must(Modifier.isPublic(method.getModifiers()), method.getName() + " is neither public nor private");
            must(method.getReturnType() == int.class, method.getName() + " does not answer an int");
            for (Class<?> type : method.getParameterTypes()) {
                must(type == int.class, method.getName() + " takes something that is no int");
            }
            seen.put(method.getName(), method.getParameterCount());
        }
        must(seen.equals(FACE), "the public methods are " + seen);
        for (String name : hidden) {
            must(!FACE.containsKey(name), name + " is the name of a private method and of a public one");
        }
    }

    private static void checkFields() {
        for (Field field : AnswerShorter.class.getDeclaredFields()) {
            must(Modifier.isPrivate(field.getModifiers()), field.getName() + " is not private");
            checkStatic(field);
        }
    }

    private static void checkStatic(Field field) {
        must(!Modifier.isStatic(field.getModifiers()) || Modifier.isFinal(field.getModifiers()),
            field.getName() + " is static and not final");
    }

    private static void checkClassesInside() {
        for (Class<?> inside : AnswerShorter.class.getDeclaredClasses()) {
            int m = inside.getModifiers();
            must(Modifier.isStatic(m) && !Modifier.isPublic(m) && !Modifier.isProtected(m), inside + " is not as it must be");
            for (Field field : inside.getDeclaredFields()) {
                checkStatic(field);
            }
            for (Method method : inside.getDeclaredMethods()) {
                must(!FACE.containsKey(method.getName()), inside + " has a method named as a public one");
            }
        }
        must(AnswerShorter.class.getDeclaredClasses().length <= 12, "too many classes inside");
    }

    private static void checkText(String text) {
        String code = text.replaceAll("(?s)/\\*.*?\\*/", "").replaceAll("//[^\n]*", "");
        for (String word : FORBIDDEN) {
            String whole = Character.isLetter(word.charAt(0)) ? "\\b" + word : word;
            String pattern = word.matches("[a-z]+") ? whole + "\\b" : whole;
            must(!Pattern.compile(pattern).matcher(code).find(), "the text has " + word);
        }
    }
}
