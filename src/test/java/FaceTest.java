import java.lang.reflect.Field;
import java.lang.reflect.Method;
import java.lang.reflect.Modifier;
import java.nio.file.Files;
import java.nio.file.Path;
import java.util.Arrays;
import java.util.Random;
import java.util.Set;
import java.util.TreeSet;

/** The face of the class, and what of LANGUAGE.md can be looked at; wild calls throw nothing of the machine's. */
public final class FaceTest {
    private static final Check CHECK = new Check("FaceTest");
    private static final String FACE = "all(3)int apart(4)int back(0)int bars(1)int changes(3)int count(1)int "
            + "counted(1)int cut(4)int day(2)int end(1)boolean fault(1)int feed(5)int fewest(0)int head(2)int holds(2)int "
            + "image(0)int leads(2)int leans(2)int longest(2)int loyal(4)int master(1)int one(3)int path(3)int plan(2)int "
            + "rivals(4)int rows(1)long ruin(1)int see(2)boolean servant(2)int set(2)boolean stolen(2)int swing(2)int "
            + "task(2)int text(1)int thank(3)int undo(0)int wages(3)int";

    public static void main(String[] args) throws Exception {
        face();
        source(args.length > 0 ? args[0] : "src/main/java/LastThanked.java");
        wildCalls();
        CHECK.end();
    }

    private static void face() {
        Set<String> names = new TreeSet<>();
        TreeSet<String> face = new TreeSet<>();
        for (Method method : LastThanked.class.getDeclaredMethods()) {
            if (!Modifier.isPrivate(method.getModifiers())) {
                CHECK.due(method + " is public", Modifier.isPublic(method.getModifiers()), true);
                face.add(method.getName() + "(" + method.getParameterCount() + ")" + method.getReturnType());
                names.add(method.getName());
            }
        }
        CHECK.due("face " + face, String.join(" ", face).equals(FACE), true);
        for (Method method : LastThanked.class.getDeclaredMethods()) {
            boolean hidden = Modifier.isPrivate(method.getModifiers());
            CHECK.due(method + " bears a public name", hidden && names.contains(method.getName()), false);
        }
        for (Class<?> inside : LastThanked.class.getDeclaredClasses()) {
            CHECK.due(inside + " is static", Modifier.isStatic(inside.getModifiers()), true);
            CHECK.due(inside + " has few fields", own(inside.getDeclaredFields()) <= 20, true);
            for (Method method : inside.getDeclaredMethods()) {
                CHECK.due(method + " bears a public name", names.contains(method.getName()), false);
            }
        }
        CHECK.due("classes", LastThanked.class.getDeclaredClasses().length <= 12, true);
        CHECK.due("fields", own(LastThanked.class.getDeclaredFields()) <= 20, true);
        for (Field field : LastThanked.class.getDeclaredFields()) {
            boolean open = !Modifier.isPrivate(field.getModifiers());
            boolean told = field.getName().equals("NONE") || field.getName().equals("HIDDEN");
            CHECK.due(field + " is open", open, told);
        }
        CHECK.due("NONE", LastThanked.NONE, -1);
        CHECK.due("HIDDEN", LastThanked.HIDDEN, -1000000);
    }

    private static long own(Field[] fields) {
        return Arrays.stream(fields).filter(field -> !Modifier.isStatic(field.getModifiers())).count();
    }

    private static void source(String file) throws Exception {
        String[] never = {"->", "::", "finally", "synchronized", "assert", "catch", "import java.io", "import java.util.*",
            "Exact(", "System.out", "String.valueOf", ".toString(", "hashCode", "instanceof", "lambda", "\" +", "+ \""};
        int start = 0;
        int number = 0;
        for (String line : Files.readAllLines(Path.of(file))) {
            number++;
            String code = line.contains("//") ? line.substring(0, line.indexOf("//")) : line;
            for (String word : never) {
                CHECK.due("line " + number + " has " + word, code.contains(word), false);
            }
            CHECK.due("line " + number + " has signs past 127", line.chars().anyMatch(sign -> sign > 127), false);
            if (code.matches("( {4}| {8})\\S.*\\(.*\\{")) {
                start = number;
            }
            if (code.matches("( {4}| {8})\\}") && start > 0) {
                CHECK.due("method to line " + number + " is short", number - start <= 60, true);
                start = 0;
            }
            if (code.startsWith("import")) {
                CHECK.due("import", code.equals("import java.util.NoSuchElementException;"), true);
            }
        }
    }

    private static int wild(Random random) {
        int[] corners = {Integer.MIN_VALUE, Integer.MAX_VALUE, -1, 9, 10, 15, 999, 1000, 1001, -11};
        return random.nextInt(9) == 0 ? corners[random.nextInt(corners.length)] : random.nextInt(5);
    }

    private static void wildCalls() throws Exception {
        Random random = new Random(23);
        Method[] methods = Arrays.stream(LastThanked.class.getDeclaredMethods())
                .filter(method -> Modifier.isPublic(method.getModifiers()))
                .sorted((a, b) -> a.getName().compareTo(b.getName())).toArray(Method[]::new);
        for (int run = 0; run < 300; run++) {
            SlowHouse house = SlowHouse.random(random, 5, 6);
            LastThanked x = random.nextInt(10) == 0 ? new LastThanked() : Check.house(house.text(random));
            Check.tell(x, 1, new SlowLaw(random).text());
            for (int call = 0; call < 400; call++) {
                Method method = methods[random.nextInt(methods.length)];
                Object[] values = new Object[method.getParameterCount()];
                for (int i = 0; i < values.length; i++) {
                    values[i] = wild(random);
                }
                if (method.getName().equals("day")) {
                    values[1] = random.nextLong();
                }
                if (method.getName().equals("rivals")) {
                    values[2] = random.nextInt(4);
                }
                try {
                    method.invoke(x, values);
                } catch (java.lang.reflect.InvocationTargetException e) {
                    boolean due = method.getName().equals("servant")
                            && e.getCause().getClass() == java.util.NoSuchElementException.class;
                    CHECK.due(method.getName() + Arrays.toString(values) + " throws " + e.getCause(), due, true);
                }
            }
        }
    }
}
