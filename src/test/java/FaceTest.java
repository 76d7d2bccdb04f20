import java.lang.reflect.Constructor;
import java.lang.reflect.Field;
import java.lang.reflect.Method;
import java.lang.reflect.Modifier;
import java.nio.file.Files;
import java.nio.file.Path;
import java.util.ArrayList;
import java.util.List;
import java.util.Set;
import java.util.TreeSet;
import java.util.regex.Matcher;
import java.util.regex.Pattern;

/** The public face, and those rules of LANGUAGE.md that can be seen in the text or the class. */
public final class FaceTest {
    private static final Check CHECK = new Check("FaceTest");
    private static final String[] FACE = {
        "int bin(int,boolean)", "int fill(int,int)", "int lot(int)", "boolean rule(int,int)",
        "int lay(int,int,int)", "int mat(int,int)", "int recall(int)", "int plate(int)",
        "int time(int,int)", "int fastest(int)", "boolean press(int,int)",
        "int shell(int,int,int,int,int)", "boolean link(int,int,int)", "boolean state(int,boolean,boolean)",
        "int badRow()", "int bad(int)", "int sheet(int,int,int)", "int best(int,int)",
        "int cuts(int,int,int)", "int count(int)", "boolean image(int)", "boolean again(int)"};
    private static final String[] BANNED = {
        "throw", "throws", "try", "catch", "synchronized", "assert", "import", "package", "protected",
        "Exact", "Object", "Thread", "Random", "File", "float", "double"};

    public static void main(String[] args) throws Exception {
        methods();
        others();
        nested();
        source();
        CHECK.finish();
    }

    /** The names of all calls of the face. */
    static Set<String> callNames() {
        Set<String> names = new TreeSet<>();
        for (String one : FACE) {
            names.add(one.substring(one.indexOf(' ') + 1, one.indexOf('(')));
        }
        return names;
    }

    private static String signature(Method method) {
        List<String> kinds = new ArrayList<>();
        for (Class<?> kind : method.getParameterTypes()) {
            kinds.add(kind.getName());
        }
        return method.getReturnType().getName() + " " + method.getName() + "(" + String.join(",", kinds) + ")";
    }

    private static void methods() {
        Set<String> want = new TreeSet<>(List.of(FACE));
        Set<String> got = new TreeSet<>();
        Set<String> names = new TreeSet<>();
        for (Method method : ChipBoards.class.getDeclaredMethods()) {
            if (!Modifier.isPrivate(method.getModifiers())) {
                got.add(signature(method));
                names.add(method.getName());
                CHECK.due(method.getName() + " is public", Modifier.isPublic(method.getModifiers()), true);
                CHECK.due(method.getName() + " is static", Modifier.isStatic(method.getModifiers()), false);
            } else {
                CHECK.due(signature(method) + " bears a public name", callNames().contains(method.getName()), false);
            }
        }
        CHECK.due("the methods are the face's: " + got, got.equals(want), true);
        for (Class<?> inside : ChipBoards.class.getDeclaredClasses()) {
            for (Method method : inside.getDeclaredMethods()) {
                String name = inside.getSimpleName() + "." + method.getName();
                CHECK.due(name + " bears a public name", names.contains(method.getName()), false);
                CHECK.due(name + " has seven parameters at most", method.getParameterCount() <= 7, true);
            }
        }
    }

    private static void others() throws Exception {
        int kind = ChipBoards.class.getModifiers();
        CHECK.due("public and final", Modifier.isPublic(kind) && Modifier.isFinal(kind), true);
        Constructor<?>[] makers = ChipBoards.class.getDeclaredConstructors();
        CHECK.due("one constructor", makers.length, 1);
        CHECK.due("without parameters", makers[0].getParameterCount(), 0);
        CHECK.due("public", Modifier.isPublic(makers[0].getModifiers()), true);
        CHECK.due("NONE", ChipBoards.NONE, -1);
        for (Field field : ChipBoards.class.getDeclaredFields()) {
            boolean isNone = field.getName().equals("NONE");
            int how = field.getModifiers();
            CHECK.due(field.getName() + " is private", Modifier.isPrivate(how), !isNone);
            CHECK.due(field.getName() + " is public", Modifier.isPublic(how), isNone);
        }
        int none = ChipBoards.class.getDeclaredField("NONE").getModifiers();
        CHECK.due("NONE is static and final", Modifier.isStatic(none) && Modifier.isFinal(none), true);
    }

    private static void nested() {
        Class<?>[] inside = ChipBoards.class.getDeclaredClasses();
        CHECK.due("some twelve classes", inside.length <= 11, true);
        for (Class<?> one : inside) {
            int how = one.getModifiers();
            CHECK.due(one.getName() + " is static", Modifier.isStatic(how), true);
            CHECK.due(one.getName() + " is hidden", Modifier.isPublic(how) || Modifier.isProtected(how), false);
            for (Field field : one.getDeclaredFields()) {
                boolean isStatic = Modifier.isStatic(field.getModifiers());
                boolean isFixed = Modifier.isFinal(field.getModifiers());
                CHECK.due(one.getName() + "." + field.getName() + " is no static state", isStatic && !isFixed, false);
            }
        }
    }

    private static void source() throws Exception {
        Path path = Path.of(System.getProperty("chipboards.root", ""), "src/main/java/ChipBoards.java");
        String code = Files.readString(path).replaceAll("(?s)/\\*.*?\\*/", "").replaceAll("//.*", "");
        for (String word : BANNED) {
            Matcher found = Pattern.compile("\\b" + word + "\\b").matcher(code);
            CHECK.due("the word " + word + " is in the source", found.find(), false);
        }
        CHECK.due("a lambda or a method reference", code.contains("->") || code.contains("::"), false);
    }
}
