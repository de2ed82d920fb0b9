import java.io.IOException;
import java.lang.reflect.Constructor;
import java.lang.reflect.Field;
import java.lang.reflect.InvocationTargetException;
import java.lang.reflect.Method;
import java.lang.reflect.Modifier;
import java.nio.file.Files;
import java.nio.file.Path;
import java.util.ArrayList;
import java.util.Arrays;
import java.util.List;
import java.util.Random;
import java.util.TreeSet;
import java.util.regex.Matcher;
import java.util.regex.Pattern;

/** The face is the document's and no more; rules of LANGUAGE.md that can be seen from outside; wild calls. */
public final class FaceTest {
    private static final Check CHECK = new Check("FaceTest");
    private static final String[] FACE = {
        "int feed(int,int,int,int,int)", "int parish(int) IllegalArgumentException", "int fault()",
        "int count(int) NoSuchElementException", "int room(int,int) NoSuchElementException", "int far(int,int) NoSuchElementException",
        "int near(int,int) NoSuchElementException", "int blow(int,int,int) NoSuchElementException",
        "int wind(int) IllegalArgumentException", "int days(int)", "int sweep(int,int,int) NoSuchElementException",
        "int shake(int,int) NoSuchElementException", "int sneeze(int,int) NoSuchElementException", "int plan(int,int)", "int undo()",
        "int then(int,int) IllegalArgumentException NoSuchElementException", "int taken(int) IllegalArgumentException",
        "int thick(int,int) IllegalArgumentException NoSuchElementException", "int heresy()",
        "int order(int,int) NoSuchElementException", "int alms()",
        "int round(int,int) IllegalArgumentException NoSuchElementException", "int shares(int) IllegalArgumentException",
        "int from(int,int,int) IllegalArgumentException NoSuchElementException", "int poorest(int) IllegalArgumentException",
        "int fullest(int) IllegalArgumentException", "int change(int) IllegalArgumentException",
        "int lend(int) NoSuchElementException", "int often(int) IllegalArgumentException", "int riches(int) NoSuchElementException",
        "int lost(int) IllegalArgumentException", "int see(int,int,int) NoSuchElementException", "int hand(int) NoSuchElementException",
        "void forget()", "int game(int,int,int) IllegalArgumentException NoSuchElementException",
        "int years(int,int,int) IllegalArgumentException NoSuchElementException", "void image()", "boolean restore()"};

    public static void main(String[] args) throws IOException, IllegalAccessException {
        face();
        nested();
        source();
        wildCalls();
        CHECK.end();
    }

    private static String told(Method method) {
        StringBuilder text = new StringBuilder(method.getReturnType().getName()).append(' ').append(method.getName()).append('(');
        for (int i = 0; i < method.getParameterCount(); i++) {
            text.append(i > 0 ? "," : "").append(method.getParameterTypes()[i].getName());
        }
        text.append(')');
        Arrays.stream(method.getExceptionTypes()).map(Class::getSimpleName).sorted().forEach(e -> text.append(' ').append(e));
        return text.toString();
    }

    private static List<Method> faceMethods() {
        List<Method> found = new ArrayList<>();
        for (Method method : DustParish.class.getDeclaredMethods()) {
            if (!Modifier.isPrivate(method.getModifiers())) {
                found.add(method);
            }
        }
        return found;
    }

    private static void face() {
        TreeSet<String> due = new TreeSet<>(Arrays.asList(FACE));
        TreeSet<String> found = new TreeSet<>();
        for (Method method : faceMethods()) {
            found.add(told(method));
            CHECK.due("public " + method, 1, () -> Modifier.isPublic(method.getModifiers()) && !Modifier.isStatic(method.getModifiers()) ? 1 : 0);
        }
        for (String method : due) {
            CHECK.due("the face has " + method, 1, () -> found.contains(method) ? 1 : 0);
        }
        CHECK.due("the face has no more", due.size(), found::size);
        CHECK.due("final", 1, () -> Modifier.isFinal(DustParish.class.getModifiers()) ? 1 : 0);
        for (Field field : DustParish.class.getDeclaredFields()) {
            CHECK.due("private but NONE: " + field, field.getName().equals("NONE") ? 0 : 1,
                () -> Modifier.isPrivate(field.getModifiers()) ? 1 : 0);
            CHECK.due("static is final: " + field, 1,
                () -> !Modifier.isStatic(field.getModifiers()) || Modifier.isFinal(field.getModifiers()) ? 1 : 0);
        }
        Constructor<?>[] made = DustParish.class.getDeclaredConstructors();
        CHECK.due("one constructor", 1, () -> made.length);
        CHECK.due("that takes nothing", 0, () -> made[0].getParameterCount());
        CHECK.due("NONE", -1, () -> DustParish.NONE);
    }

    private static void nested() {
        Class<?>[] all = DustParish.class.getDeclaredClasses();
        CHECK.due("at most twelve classes", 1, () -> all.length < 12 ? 1 : 0);
        TreeSet<String> names = new TreeSet<>();
        faceMethods().forEach(m -> names.add(m.getName()));
        List<Class<?>> classes = new ArrayList<>(Arrays.asList(all));
        classes.add(DustParish.class);
        for (Class<?> one : classes) {
            int fields = 0;
            for (Field field : one.getDeclaredFields()) {
                fields += Modifier.isStatic(field.getModifiers()) ? 0 : 1;
            }
            int many = fields;
            CHECK.due("at most twenty fields in " + one, 1, () -> many <= 20 ? 1 : 0);
            for (Method method : one.getDeclaredMethods()) {
                CHECK.due("at most seven parameters: " + method, 1, () -> method.getParameterCount() <= 7 ? 1 : 0);
                boolean ofFace = one == DustParish.class && Modifier.isPublic(method.getModifiers());
                CHECK.due("no name of the face: " + method, 1, () -> ofFace || !names.contains(method.getName()) ? 1 : 0);
            }
        }
        for (Class<?> one : all) {
            CHECK.due("static and not public: " + one, 1,
                () -> Modifier.isStatic(one.getModifiers()) && !Modifier.isPublic(one.getModifiers()) ? 1 : 0);
        }
    }

    private static void source() throws IOException {
        String text = Files.readString(Path.of("src/main/java/DustParish.java"));
        String[] never = {"\\btry\\b", "\\bcatch\\b", "\\bfinally\\b", "\\bsynchronized\\b", "\\bassert\\b", "->", "::", "\\bnull\\b",
            "\\bpackage \\w", "System\\.(?!arraycopy)", "\\bRandom\\b", "\\bObject\\b", "Exact\\b", "\\bstatic \\{", "\\binstanceof\\b",
            "\\bfloat\\b", "\\bdouble\\b", "import (?!java\\.util\\.(Arrays|NoSuchElementException);)",
            "new (?!int\\[|byte\\[|State\\[|IllegalArgumentException\\(\\)|NoSuchElementException\\(\\)|Facts\\(|Present\\(|State\\(|Reader\\(|"
            + "Rule\\(|Acts\\(|Sights\\(|Tokens\\(|RuleReader\\()"};
        for (String pattern : never) {
            Matcher matcher = Pattern.compile(pattern).matcher(text);
            CHECK.due("never " + pattern, 0, () -> matcher.find() ? 1 : 0);
        }
        String[] lines = text.split("\n");
        int start = 0;
        for (int i = 0; i < lines.length; i++) {
            if (lines[i].matches("( {4}| {8})(public|private|static|void|int|boolean).*\\) ?(throws .*)?\\{")) {
                start = i;
            }
            if (lines[i].matches("( {4}| {8})\\}")) {
                int length = i - start + 1;
                String where = lines[start].trim();
                boolean isMethod = where.endsWith("{") && !lines[i].equals("    }") || lines[start].startsWith("    p");
                CHECK.due("sixty lines at most: " + where, 1, () -> !isMethod || length <= 60 || where.contains("class") ? 1 : 0);
            }
        }
    }

    /** Any arguments in any state: nothing but what the face says is thrown. */
    private static void wildCalls() throws IllegalAccessException {
        Random random = new Random(7);
        List<Method> methods = faceMethods();
        methods.sort((a, b) -> a.getName().compareTo(b.getName()));
        int[] edges = {-1, 0, 1, 2, 5, 6, 7, 8, 9, 10, 30, 31, 99, 100, 255, 511, 512, 700, 999, 1000, 9999, 10000,
            Integer.MAX_VALUE, Integer.MIN_VALUE, Integer.MAX_VALUE - 1, Integer.MIN_VALUE + 1};
        String[] texts = {"", "pew 0 100 10;",
            "pew 0 999 99;chapel 1 999 99;attic 2 999 99;door 0 1 1;door 1 2 9;wind;blow 0 1 9;blow 1 2 9;calendar 0 5;every 1;clean 999;"
            + "tithe dust*dust*dust*dust/(brought-day)/(kind-1);",
            "pew 5 0 0;".repeat(9) + "door 0 8 1;door 8 7 1;wind;wind;wind;wind;wind;blow 8 0 1;calendar 4 4 4 4 4 4 4 4 4 5;"};
        for (int run = 0; run < 200; run++) {
            DustParish x = Check.told(texts[run % texts.length]);
            for (int call = 0; call < 400; call++) {
                Method method = methods.get(random.nextInt(methods.size()));
                if (method.getName().equals("parish") && random.nextInt(20) > 0) {
                    continue;
                }
                Object[] values = new Object[method.getParameterCount()];
                for (int i = 0; i < values.length; i++) {
                    values[i] = random.nextInt(3) > 0 ? edges[random.nextInt(10)] : edges[random.nextInt(edges.length)];
                }
                String thrown = thrownBy(method, x, values);
                CHECK.due("thrown by " + method + Arrays.toString(values) + ": " + thrown, 1,
                    () -> thrown.isEmpty() || told(method).contains(" " + thrown) ? 1 : 0);
            }
        }
    }

    private static String thrownBy(Method method, DustParish x, Object[] values) throws IllegalAccessException {
        try {
            method.invoke(x, values);
            return "";
        } catch (InvocationTargetException e) {
            return e.getCause().getClass().getSimpleName();
        }
    }
}
