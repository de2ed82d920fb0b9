import java.io.IOException;
import java.lang.reflect.Array;
import java.lang.reflect.Constructor;
import java.lang.reflect.Field;
import java.lang.reflect.InvocationTargetException;
import java.lang.reflect.Method;
import java.lang.reflect.Modifier;
import java.nio.file.Files;
import java.nio.file.Path;
import java.util.ArrayList;
import java.util.Arrays;
import java.util.IdentityHashMap;
import java.util.List;
import java.util.Random;
import java.util.TreeSet;
import java.util.regex.Matcher;
import java.util.regex.Pattern;

/** The face is the document's and no more; how much room an object takes; wild calls. */
public final class FaceTest {
    private static final Check CHECK = new Check("FaceTest");
    private static final String[] FACE = {
        "int feed(int,int,int,int,int)", "int parish(int) IllegalArgumentException", "int fault()",
        "int count(int) NoSuchElementException", "int room(int,int) NoSuchElementException", "int far(int,int) NoSuchElementException",
        "int near(int,int) NoSuchElementException", "int blow(int,int,int) NoSuchElementException",
        "int wind(int) IllegalArgumentException", "int days(int)", "int sweep(int,int,int) NoSuchElementException",
        "int shake(int,int) NoSuchElementException", "int sneeze(int,int) NoSuchElementException", "int plan(int,int)", "int undo()",
        "int then(int,int) IllegalArgumentException NoSuchElementException", "int taken(int) IllegalArgumentException",
        "int thick(int,int) IllegalArgumentException NoSuchElementException", "int heresy()",
        "int order(int,int) NoSuchElementException", "int alms()",
        "int round(int,int) IllegalArgumentException NoSuchElementException", "int shares(int) IllegalArgumentException",
        "int from(int,int,int) IllegalArgumentException NoSuchElementException", "int poorest(int) IllegalArgumentException",
        "int fullest(int) IllegalArgumentException", "int change(int) IllegalArgumentException",
        "int lend(int) NoSuchElementException", "int often(int) IllegalArgumentException", "int riches(int) NoSuchElementException",
        "int lost(int) IllegalArgumentException", "int see(int,int,int) NoSuchElementException", "int hand(int) NoSuchElementException",
        "void forget()", "int game(int,int,int) IllegalArgumentException NoSuchElementException",
        "int years(int,int,int) IllegalArgumentException NoSuchElementException", "void image()", "boolean restore()"};

    public static void main(String[] args) throws IllegalAccessException, IOException {
        documentsFace();
        face();
        size();
        wildCalls();
        CHECK.end();
    }

    /** The document's face, word by word, is the one that is looked for here. */
    private static void documentsFace() throws IOException {
        String page = Files.readString(Path.of("../shared/DOC.md"));
        String block = page.substring(page.indexOf("```java"), page.indexOf("```\n", page.indexOf("```java") + 7));
        Matcher line = Pattern.compile("public (\\w+ \\w+\\()([^)]*)\\)(?: throws ([^;]*))?;").matcher(block);
        TreeSet<String> found = new TreeSet<>();
        while (line.find()) {
            StringBuilder text = new StringBuilder(line.group(1)).append(line.group(2).replaceAll(" \\w+(, )?", ",").replaceAll(",$", ""));
            text.append(')');
            String thrown = line.group(3) == null ? "" : line.group(3);
            Arrays.stream(thrown.split(", ")).filter(e -> !e.isEmpty()).sorted().forEach(e -> text.append(' ').append(e));
            found.add(text.toString());
        }
        CHECK.due("the document's face: " + found, 1, () -> found.equals(new TreeSet<>(Arrays.asList(FACE))) ? 1 : 0);
        CHECK.due("lines of the document's face", block.split("public ").length - 1, () -> found.size() + 3);
    }

    private static String told(Method method) {
        StringBuilder text = new StringBuilder(method.getReturnType().getName()).append(' ').append(method.getName()).append('(');
        for (int i = 0; i < method.getParameterCount(); i++) {
            text.append(i > 0 ? "," : "").append(method.getParameterTypes()[i].getName());
        }
        text.append(')');
        Arrays.stream(method.getExceptionTypes()).map(Class::getSimpleName).sorted().forEach(e -> text.append(' ').append(e));
        return text.toString();
    }

    private static List<Method> faceMethods() {
        List<Method> found = new ArrayList<>();
        for (Method method : DustParish.class.getDeclaredMethods()) {
            if (!Modifier.isPrivate(method.getModifiers())) {
                found.add(method);
            }
        }
        return found;
    }

    private static void face() {
        TreeSet<String> due = new TreeSet<>(Arrays.asList(FACE));
        TreeSet<String> found = new TreeSet<>();
        for (Method method : faceMethods()) {
            found.add(told(method));
            CHECK.due("public " + method, 1, () -> Modifier.isPublic(method.getModifiers()) && !Modifier.isStatic(method.getModifiers()) ? 1 : 0);
        }
        for (String method : due) {
            CHECK.due("the face has " + method, 1, () -> found.contains(method) ? 1 : 0);
        }
        CHECK.due("the face has no more", due.size(), found::size);
        CHECK.due("final", 1, () -> Modifier.isFinal(DustParish.class.getModifiers()) ? 1 : 0);
        for (Field field : DustParish.class.getDeclaredFields()) {
            CHECK.due("private but NONE: " + field, field.getName().equals("NONE") ? 0 : 1,
                () -> Modifier.isPrivate(field.getModifiers()) ? 1 : 0);
            CHECK.due("static is final: " + field, 1,
                () -> !Modifier.isStatic(field.getModifiers()) || Modifier.isFinal(field.getModifiers()) ? 1 : 0);
        }
        Constructor<?>[] made = DustParish.class.getDeclaredConstructors();
        CHECK.due("one constructor", 1, () -> made.length);
        CHECK.due("that takes nothing", 0, () -> made[0].getParameterCount());
        CHECK.due("NONE", -1, () -> DustParish.NONE);
    }

    /** An object takes so little room that a run can have hundreds of them; its calls take none. */
    private static void size() {
        DustParish x = Check.told("pew 0 100 10;pew 1 100 10;door 0 1 2;wind;blow 0 1 5;calendar 0 5;tithe dust/4+brought;");
        IdentityHashMap<Object, Object> seen = new IdentityHashMap<>();
        int elements = elementsOf(x, seen);
        int objects = seen.size();
        CHECK.due("objects: " + objects, 1, () -> objects < 400 ? 1 : 0);
        CHECK.due("fields and elements: " + elements, 1, () -> elements < 12000 ? 1 : 0);
        for (int day = 0; day < 300; day++) {
            x.days(1);
            x.shake(day % 2, 1 - day % 2);
            x.see(0, 5, 100);
            x.hand(0);
            x.image();
        }
        seen.clear();
        CHECK.due("fields and elements 300 days on", elements, () -> elementsOf(x, seen));
        CHECK.due("objects 300 days on", objects, seen::size);
    }

    private static int elementsOf(Object one, IdentityHashMap<Object, Object> seen) {
        if (one == null || one instanceof String || seen.put(one, one) != null) {
            return 0;
        }
        if (one.getClass().isArray()) {
            int sum = Array.getLength(one);
            for (int i = 0; i < Array.getLength(one) && !one.getClass().getComponentType().isPrimitive(); i++) {
                sum += elementsOf(Array.get(one, i), seen);
            }
            return sum;
        }
        int sum = 0;
        for (Field field : one.getClass().getDeclaredFields()) {
            if (!Modifier.isStatic(field.getModifiers())) {
                sum += 1 + (field.getType().isPrimitive() ? 0 : elementsOf(valueOf(field, one), seen));
            }
        }
        return sum;
    }

    private static Object valueOf(Field field, Object one) {
        try {
            field.setAccessible(true);
            return field.get(one);
        } catch (IllegalAccessException e) {
            throw new IllegalStateException(e);
        }
    }

    /** Any arguments in any state: nothing but what the face says is thrown. */
    private static void wildCalls() throws IllegalAccessException {
        Random random = new Random(7);
        List<Method> methods = faceMethods();
        methods.sort((a, b) -> a.getName().compareTo(b.getName()));
        int[] edges = {-1, 0, 1, 2, 5, 6, 7, 8, 9, 10, 30, 31, 99, 100, 255, 511, 512, 700, 999, 1000, 9999, 10000,
            Integer.MAX_VALUE, Integer.MIN_VALUE, Integer.MAX_VALUE - 1, Integer.MIN_VALUE + 1};
        String[] texts = {"", "pew 0 100 10;",
            "pew 0 999 99;chapel 1 999 99;attic 2 999 99;door 0 1 1;door 1 2 9;wind;blow 0 1 9;blow 1 2 9;calendar 0 5;every 1;clean 999;"
            + "tithe dust*dust*dust*dust/(brought-day)/(kind-1);",
            "pew 5 0 0;".repeat(9) + "door 0 8 1;door 8 7 1;wind;wind;wind;wind;wind;blow 8 0 1;calendar 4 4 4 4 4 4 4 4 4 5;"};
        for (int run = 0; run < 200; run++) {
            DustParish x = Check.told(texts[run % texts.length]);
            for (int call = 0; call < 400; call++) {
                Method method = methods.get(random.nextInt(methods.size()));
                if (method.getName().equals("parish") && random.nextInt(20) > 0) {
                    continue;
                }
                Object[] values = new Object[method.getParameterCount()];
                for (int i = 0; i < values.length; i++) {
                    values[i] = random.nextInt(3) > 0 ? edges[random.nextInt(10)] : edges[random.nextInt(edges.length)];
                }
                String thrown = thrownBy(method, x, values);
                CHECK.due("thrown by " + method + Arrays.toString(values) + ": " + thrown, 1,
                    () -> thrown.isEmpty() || told(method).contains(" " + thrown) ? 1 : 0);
            }
        }
    }

    private static String thrownBy(Method method, DustParish x, Object[] values) throws IllegalAccessException {
        try {
            method.invoke(x, values);
            return "";
        } catch (InvocationTargetException e) {
            return e.getCause().getClass().getSimpleName();
        }
    }
}
