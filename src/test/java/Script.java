import java.lang.reflect.InvocationTargetException;
import java.lang.reflect.Method;
import java.lang.reflect.Modifier;
import java.util.HashMap;
import java.util.Map;
import java.util.NoSuchElementException;

/**
 * Tests one sentence of ../shared/DOC.md at a time, by lines: "house TEXT" and "law TEXT" tell a text, "tape TEXT"
 * leaves it on the tape, all others are calls with what they answer: "thank(0, 0, 5) = 1; leans(0, 4) = NONE".
 * A boolean is 1 or 0; NoSuchElementException is THROWS; MIN and MAX are the least and the largest int.
 */
final class Script {
    static final long THROWS = Long.MIN_VALUE;
    private static final Map<String, Method> FACE = new HashMap<>();
    private final Check check;
    private String sentence = "";
    private int sentences;

    static {
        for (Method method : LastThanked.class.getDeclaredMethods()) {
            if (Modifier.isPublic(method.getModifiers())) {
                FACE.put(method.getName(), method);
            }
        }
    }

    Script(String name) {
        check = new Check(name);
    }

    /** The sentence that what follows tests, and where it stands; " .. " is for words left out. */
    void says(String where, String words) {
        sentence = where + ": " + words;
        sentences++;
    }

    void due(String call, long got, long want) {
        check.due("[" + sentence + "] " + call, got, want);
    }

    void end() {
        System.out.println(sentences + " sentences");
        check.end();
    }

    /** A new object and what is done with it. */
    LastThanked run(String... lines) {
        LastThanked x = new LastThanked();
        on(x, lines);
        return x;
    }

    void on(LastThanked x, String... lines) {
        for (String line : lines) {
            if (line.startsWith("house ")) {
                due(line + " is told", Check.tell(x, 0, line.substring(6)) > 0 ? 1 : 0, 1);
            } else if (line.startsWith("law ")) {
                due(line + " is told", Check.tell(x, 1, line.substring(4)) >= 0 ? 1 : 0, 1);
            } else if (line.startsWith("tape ")) {
                x.end(0);
                due(line + " is fed", Check.feed(x, line.substring(5)), line.length() - 5);
            } else {
                calls(x, line);
            }
        }
    }

    private void calls(LastThanked x, String line) {
        for (String call : line.split(";")) {
            String[] sides = call.split("=");
            due(line.contains(";") ? sides[0].trim() + " in " + line : sides[0].trim(), answer(x, sides[0].trim()),
                    number(sides[1].trim()));
        }
    }

    /** Each of the calls on an object so made is answered so, and behind it all is as if it had not been. */
    void refused(String[] made, String... calls) {
        for (String line : calls) {
            for (String call : line.split(";")) {
                LastThanked x = run(made);
                LastThanked twin = run(made);
                calls(x, call.trim());
                String now = Look.at(x);
                String due = Look.at(twin);
                this.due(call.trim() + " changes nothing" + Look.difference(now, due), now.equals(due) ? 1 : 0, 1);
            }
        }
    }

    /** Where a text is wrong; told, it is refused just then; the tape is empty only behind one that is not. */
    void text(int sort, String text, int want) {
        LastThanked x = new LastThanked();
        String told = (sort == 0 ? "house " : "law ") + text;
        due("fault of " + told, Check.fault(x, sort, text), want);
        due("tape behind the fault of " + told, x.count(5), text.length());
        int answer = x.text(sort);
        due("refuses " + told, answer == LastThanked.NONE ? 1 : 0, want == LastThanked.NONE ? 0 : 1);
        due("tape behind " + told, x.count(5), want == LastThanked.NONE ? 0 : text.length());
    }

    /** Of all bytes, those with which a text goes on (but is no whole one), and those with which it is whole. */
    void goesOn(int sort, String text, String with, String whole) {
        for (char sign = 1; sign < 256; sign++) {
            boolean on = with.indexOf(sign) >= 0;
            int wrong = on ? text.length() + 1 : text.length();
            text(sort, text + sign, whole.indexOf(sign) >= 0 ? LastThanked.NONE : wrong);
        }
    }

    static long answer(LastThanked x, String call) {
        int open = call.indexOf('(');
        Method method = FACE.get(call.substring(0, open));
        String inside = call.substring(open + 1, call.indexOf(')')).trim();
        String[] words = inside.isEmpty() ? new String[0] : inside.split(",");
        Object[] values = new Object[words.length];
        for (int i = 0; i < words.length; i++) {
            long value = number(words[i].trim());
            values[i] = method.getParameterTypes()[i] == long.class ? (Object) value : (Object) (int) value;
        }
        try {
            Object answer = method.invoke(x, values);
            return answer instanceof Boolean ? ((Boolean) answer ? 1 : 0) : ((Number) answer).longValue();
        } catch (InvocationTargetException e) {
            if (e.getCause().getClass() == NoSuchElementException.class) {
                return THROWS;
            }
            throw new IllegalStateException(call, e.getCause());
        } catch (IllegalAccessException | IllegalArgumentException e) {
            throw new IllegalStateException(call, e);
        }
    }

    private static long number(String word) {
        switch (word) {
            case "NONE":
                return LastThanked.NONE;
            case "HIDDEN":
                return LastThanked.HIDDEN;
            case "THROWS":
                return THROWS;
            case "MAX":
                return Integer.MAX_VALUE;
            case "MIN":
                return Integer.MIN_VALUE;
            default:
                return Long.parseLong(word);
        }
    }
}
