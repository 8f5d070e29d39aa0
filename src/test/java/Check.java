import java.nio.charset.StandardCharsets;
import java.util.NoSuchElementException;

/** Counts answers that are due and those that are not, and feeds texts. */
final class Check {
    private final String name;
    private int right;
    private int wrong;

    Check(String name) {
        this.name = name;
    }

    void due(String call, long got, long want) {
        if (got == want) {
            right++;
            return;
        }
        wrong++;
        if (wrong <= 30) {
            System.out.println(name + ": " + call + " answered " + got + ", due is " + want);
        }
    }

    void due(String call, boolean got, boolean want) {
        due(call, got ? 1 : 0, want ? 1 : 0);
    }

    void throwsNone(String call, LastThanked x, int servant, int what) {
        boolean thrown = false;
        try {
            x.servant(servant, what);
        } catch (NoSuchElementException e) {
            thrown = e.getClass() == NoSuchElementException.class;
        }
        due(call + " throws", thrown, true);
    }

    void end() {
        System.out.println(name + ": " + right + " answers as due, " + wrong + " not");
        if (wrong > 0 || right == 0) {
            System.exit(1);
        }
    }

    /** Feeds the text, twenty bytes a call; the last answer. */
    static int feed(LastThanked x, String text) {
        byte[] bytes = text.getBytes(StandardCharsets.ISO_8859_1);
        int answer = LastThanked.NONE;
        for (int from = 0; from < bytes.length; from += 20) {
            int[] words = new int[5];
            for (int i = 0; i < 20 && from + i < bytes.length; i++) {
                words[i / 4] |= (bytes[from + i] & 255) << 24 - 8 * (i % 4);
            }
            answer = x.feed(words[0], words[1], words[2], words[3], words[4]);
        }
        return answer;
    }

    /** The tape is the text alone, then told. */
    static int tell(LastThanked x, int sort, String text) {
        x.end(0);
        feed(x, text);
        return x.text(sort);
    }

    static int fault(LastThanked x, int sort, String text) {
        x.end(0);
        feed(x, text);
        return x.fault(sort);
    }

    static LastThanked house(String text) {
        LastThanked x = new LastThanked();
        tell(x, 0, text);
        return x;
    }
}
