import java.util.ArrayDeque;
import java.util.Deque;
import java.util.regex.Matcher;
import java.util.regex.Pattern;

/** Where a text can't go on, told another way than the class does: by patterns and by a row of states. */
final class FaultOracle {
    private static final Pattern HOUSE = Pattern.compile(
            " *r *\\d{1,2} *(; *(s *([aow] *\\d{1,2} *)*|m *(a *\\d{1,2} *)*|t *([rhnp] *\\d{1,2} *)*))*");
    private static final Pattern SIGN = Pattern.compile("\\d+|[^ ]");

    private FaultOracle() {
    }

    static int house(String text) {
        int wrong = Math.min(grammar(text), meaning(text));
        if (wrong < text.length()) {
            return wrong;
        }
        return HOUSE.matcher(text).matches() && whole(text) ? -1 : text.length();
    }

    private static int grammar(String text) {
        for (int i = 0; i < text.length(); i++) {
            Matcher matcher = HOUSE.matcher(text.substring(0, i + 1));
            if (!matcher.matches() && !matcher.hitEnd()) {
                return i;
            }
        }
        return text.length();
    }

    /** The first sign that is wrong by what stands ahead of it, if the grammar were right. */
    private static int meaning(String text) {
        Matcher signs = SIGN.matcher(text);
        int rooms = 0;
        int[] clauses = new int[128];
        String told = "";
        char kind = 'r';
        char letter = 'r';
        while (signs.find()) {
            char sign = signs.group().charAt(0);
            if (Character.isDigit(sign)) {
                int value = signs.end() - signs.start() > 2 ? -1 : Integer.parseInt(signs.group());
                int[] bounds = bounds(letter, rooms, clauses['t'] - 1);
                if (value >= 0 && (value < bounds[0] || value > bounds[1])) {
                    return signs.end() - 1;
                }
                rooms = letter == 'r' && kind == 'r' ? value : rooms;
            } else if (sign == ';') {
                kind = ';';
            } else if (kind == ';') {
                kind = sign;
                told = "";
                int most = sign == 's' ? 5 : sign == 'm' ? 3 : 4;
                if (sign >= 128 || ++clauses[sign] > most) {
                    return signs.start();
                }
            } else {
                letter = kind == 't' && sign == 'r' ? 'a' : sign;
                if (told.indexOf(sign) >= 0) {
                    return signs.start();
                }
                told += sign;
            }
        }
        return text.length();
    }

    private static int[] bounds(char letter, int rooms, int task) {
        switch (letter) {
            case 'r':
                return new int[] {2, 6};
            case 'a':
                return new int[] {0, rooms - 1};
            case 'o':
                return new int[] {0, 2};
            case 'w':
                return new int[] {0, 9};
            case 'h':
                return new int[] {1, 3};
            case 'n':
                return new int[] {1, 30};
            default:
                return new int[] {0, task - 1};
        }
    }

    private static boolean whole(String text) {
        String bare = text.replace(" ", "");
        int masters = bare.split(";m", -1).length - 1;
        Matcher barred = Pattern.compile("o(\\d+)").matcher(bare);
        boolean known = true;
        while (barred.find()) {
            known &= Integer.parseInt(barred.group(1)) < masters;
        }
        return known && masters > 0 && bare.contains(";s");
    }

    private static final class Level {
        final char opened;
        boolean undecided;
        boolean condition;
        boolean compared;
        int bangs;

        Level(char opened, boolean undecided, boolean condition) {
            this.opened = opened;
            this.undecided = undecided;
            this.condition = condition;
        }
    }

    static int law(String text) {
        Deque<Level> levels = new ArrayDeque<>();
        String want = "y"; // y, :, unit, atom, more (behind an atom), closed (behind a unit in brackets)
        int digits = 0;
        for (int i = 0; i < text.length(); i++) {
            char sign = text.charAt(i);
            if (sign == ' ') {
                digits = 0;
                continue;
            }
            if (Character.isDigit(sign) && digits > 0 && digits < 4) {
                digits++;
                continue;
            }
            digits = 0;
            String next = step(levels, want, sign);
            if (next == null) {
                return i;
            }
            digits = Character.isDigit(sign) ? 1 : 0;
            want = next;
        }
        boolean bottom = levels.size() == 1 && want.equals("more");
        return bottom && (levels.peek().undecided || !levels.peek().condition) ? -1 : text.length();
    }

    private static String step(Deque<Level> levels, String want, char sign) {
        if (want.equals("y")) {
            return sign == 'y' ? ":" : null;
        }
        if (want.equals(":")) {
            levels.clear();
            levels.push(new Level('y', true, true));
            return sign == ':' ? "unit" : null;
        }
        int depth = levels.size() - 1;
        for (Level open : levels) {
            depth += open.bangs;
        }
        Level level = levels.peek();
        if (want.equals("unit") || want.equals("atom")) {
            if (Character.isDigit(sign) || "mstnl".indexOf(sign) >= 0) {
                return "more";
            }
            if (depth == 6) {
                return null;
            }
            if (sign == '[') {
                levels.push(new Level('[', false, false));
                return "atom";
            }
            return want.equals("unit") ? unit(levels, level, sign) : null;
        }
        return want.equals("more") ? more(levels, level, sign) : behindUnit(levels, level, sign);
    }

    private static String unit(Deque<Level> levels, Level level, char sign) {
        if (sign == '!') {
            level.undecided = false;
            level.bangs++;
            return "unit";
        }
        if (sign == '(') {
            level.undecided = false;
            levels.push(new Level('(', false, true));
            return "unit";
        }
        return null;
    }

    private static String more(Deque<Level> levels, Level level, char sign) {
        if ("+-*/".indexOf(sign) >= 0) {
            return "atom";
        }
        if (level.condition && !level.compared && "=<>".indexOf(sign) >= 0) {
            level.undecided = false;
            level.compared = true;
            return "atom";
        }
        if (level.opened == '[') {
            if (sign == ']') {
                levels.pop();
                return "more";
            }
            return null;
        }
        if (level.undecided || !level.condition) {
            return sign == ';' ? "y" : null;
        }
        return level.compared ? behindUnit(levels, level, sign) : null;
    }

    private static String behindUnit(Deque<Level> levels, Level level, char sign) {
        if (sign == '&' || sign == '|') {
            level.bangs = 0;
            level.compared = false;
            return "unit";
        }
        if (level.opened == '(' && sign == ')') {
            levels.pop();
            return "closed";
        }
        if (level.opened == 'y' && sign == '?') {
            level.condition = false;
            level.bangs = 0;
            return "atom";
        }
        return null;
    }
}
