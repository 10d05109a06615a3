import java.io.IOException;
import java.lang.reflect.Constructor;
import java.lang.reflect.Field;
import java.lang.reflect.Method;
import java.lang.reflect.Modifier;
import java.nio.file.Files;
import java.nio.file.Path;
import java.util.Set;
import java.util.TreeSet;

/** The face of the document and the rules of LANGUAGE.md that can be looked up. */
final class FaceTest {
    private static final Check CHECK = new Check("FaceTest");

    private static final String[] FACE = {
        "int feed(int,int,int,int,int)", "int text(int)", "int fault(int)", "int named(int)", "int grower(int,int)",
        "int ribbon(int,int)", "int judged(int,int)", "int best(int)", "long law(int,int,int)",
        "boolean show(int,int,boolean)", "int raise(int,int)", "boolean hand(int,int)", "int go(int)",
        "int ahead(int,int,int)", "int ring(int,int)", "int free(int,int)", "int lead(int,int,int,int)",
        "int walk(int,int)", "int meet()", "int reach(int)", "int deserves()", "int order(int)", "int rests(int,int)",
        "int rest(int,int,int)", "int visit(int,int,int)", "int hosts(int,int)", "int rank(int)", "int keepers()",
        "int comesTo(int,int)", "int popular()", "int mutual()", "int lonely()", "int note(int,int)",
        "int see(int,int,int,boolean)", "int strike(int)", "boolean known(int)", "int doubts(int)",
        "int chance(int,int,int,int)", "int tried(int,int,int)", "int undo()", "int keep()", "int back()",
        "int count(int)"};

    public static void main(String[] args) throws IOException {
        Set<String> names = new TreeSet<>();
        face(names);
        classes(names);
        source();
        CHECK.end();
    }

    private static void face(Set<String> names) {
        Set<String> due = new TreeSet<>(Set.of(FACE));
        for (Method method : RibbonRun.class.getDeclaredMethods()) {
            if (Modifier.isPrivate(method.getModifiers())) {
                continue;
            }
            names.add(method.getName());
            CHECK.due("due method " + told(method), due.remove(told(method)), true);
            CHECK.due("public " + method, Modifier.isPublic(method.getModifiers()), true);
        }
        CHECK.due("methods that are missing: " + due, due.size(), 0);
        CHECK.due("final class", Modifier.isFinal(RibbonRun.class.getModifiers()), true);
        int open = 0;
        for (Field field : RibbonRun.class.getDeclaredFields()) {
            open += Modifier.isPrivate(field.getModifiers()) ? 0 : 1;
            CHECK.due("static and not final " + field,
                Modifier.isStatic(field.getModifiers()) && !Modifier.isFinal(field.getModifiers()), false);
        }
        CHECK.due("fields that aren't private", open, 1);
        CHECK.due("NONE", RibbonRun.NONE, -1);
        Constructor<?>[] makers = RibbonRun.class.getDeclaredConstructors();
        CHECK.due("constructors", makers.length, 1);
        CHECK.due("public constructor", Modifier.isPublic(makers[0].getModifiers()), true);
    }

    private static String told(Method method) {
        StringBuilder told = new StringBuilder(method.getReturnType() + " " + method.getName() + "(");
        for (Class<?> type : method.getParameterTypes()) {
            told.append(told.charAt(told.length() - 1) == '(' ? "" : ",").append(type);
        }
        return told.append(")").toString();
    }

    private static void classes(Set<String> names) {
        Class<?>[] inside = RibbonRun.class.getDeclaredClasses();
        CHECK.due("at most twelve classes", inside.length < 12, true);
        for (Class<?> one : inside) {
            CHECK.due("static " + one, Modifier.isStatic(one.getModifiers()), true);
            int fields = 0;
            for (Field field : one.getDeclaredFields()) {
                fields += Modifier.isStatic(field.getModifiers()) ? 0 : 1;
            }
            CHECK.due("at most twenty fields of " + one, fields <= 20, true);
            for (Method method : one.getDeclaredMethods()) {
                CHECK.due("bears a name of the face: " + method, names.contains(method.getName()), false);
                CHECK.due("at most seven parameters: " + method, method.getParameterCount() <= 7, true);
            }
        }
        for (Method method : RibbonRun.class.getDeclaredMethods()) {
            CHECK.due("private with a name of the face: " + method,
                Modifier.isPrivate(method.getModifiers()) && names.contains(method.getName()), false);
        }
    }

    private static void source() throws IOException {
        String source = Files.readString(Path.of("src/main/java/RibbonRun.java"));
        for (String word : new String[] {"try {", "catch", "finally", "->", "::", "synchronized", "assert ", "package ",
            "Random", "System.nano", "System.current", "Thread", "double ", "Exact("}) {
            CHECK.due("has '" + word + "'", source.contains(word), false);
        }
        int imports = source.split("\nimport |^import ", -1).length - 1;
        CHECK.due("imports", imports, 1);
        int start = -1;
        String[] lines = source.split("\n");
        for (int i = 0; i < lines.length; i++) {
            boolean isHead = lines[i].matches(" {4,8}[a-z].*\\) (throws .*)?\\{");
            start = isHead ? i : start;
            if (lines[i].matches(" {4,8}\\}")) {
                CHECK.due("at most sixty lines up to line " + (i + 1), start < 0 || i - start < 60, true);
                start = -1;
            }
        }
    }
}
