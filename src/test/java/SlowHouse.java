import java.util.ArrayList;
import java.util.Arrays;
import java.util.HashMap;
import java.util.HashSet;
import java.util.List;
import java.util.Map;
import java.util.PriorityQueue;
import java.util.Random;
import java.util.Set;

/** A house as the document's words say it, reckoned the slow way: minute by minute, act by act. */
final class SlowHouse {
    static final int NONE = -1;
    int rooms;
    int[][] servants; // room, who may not, wage
    int[] masters;
    int[][] tasks; // room, hands, minutes, after
    SlowLaw law;
    int last;
    boolean once;
    List<int[]> thanks = new ArrayList<>(); // who, whom, minute

    static SlowHouse random(Random random, int mostServants, int mostRooms) {
        SlowHouse house = new SlowHouse();
        house.rooms = 2 + random.nextInt(mostRooms - 1);
        house.masters = new int[1 + random.nextInt(3)];
        for (int i = 0; i < house.masters.length; i++) {
            house.masters[i] = random.nextInt(house.rooms);
        }
        house.servants = new int[1 + random.nextInt(mostServants)][];
        for (int i = 0; i < house.servants.length; i++) {
            int barred = random.nextInt(3) == 0 ? random.nextInt(house.masters.length) : NONE;
            int wage = random.nextInt(2) == 0 ? 1 : random.nextInt(10);
            house.servants[i] = new int[] {random.nextInt(house.rooms), barred, wage};
        }
        house.tasks = new int[random.nextInt(5)][];
        for (int i = 0; i < house.tasks.length; i++) {
            int hands = 1 + random.nextInt(1 + random.nextInt(Math.min(3, house.servants.length + 1)));
            int minutes = random.nextInt(2) == 0 ? 5 : 1 + random.nextInt(30);
            int after = i > 0 && random.nextInt(2) == 0 ? random.nextInt(i) : NONE;
            house.tasks[i] = new int[] {random.nextInt(house.rooms), hands, minutes, after};
        }
        return house;
    }

    /** The house as a text: clauses and items in any order, what is as without a word left out at times. */
    String text(Random random) {
        List<String> order = new ArrayList<>();
        for (int i = 0; i < servants.length; i++) {
            order.add("s");
        }
        for (int i = 0; i < masters.length; i++) {
            order.add("m");
        }
        for (int i = 0; i < tasks.length; i++) {
            order.add("t");
        }
        java.util.Collections.shuffle(order, random);
        StringBuilder text = new StringBuilder("r").append(rooms);
        int s = 0;
        int m = 0;
        int t = 0;
        for (String kind : order) {
            text.append(';').append(kind);
            if (kind.equals("s")) {
                text.append(items(random, "aow", servants[s++], new int[] {0, NONE, 1}));
            } else if (kind.equals("m")) {
                text.append(items(random, "a", new int[] {masters[m++]}, new int[] {0}));
            } else {
                text.append(items(random, "rhnp", tasks[t++], new int[] {0, 1, 5, NONE}));
            }
        }
        return text.toString();
    }

    private static String items(Random random, String letters, int[] row, int[] without) {
        List<String> items = new ArrayList<>();
        for (int i = 0; i < row.length; i++) {
            if (row[i] != without[i] || row[i] != NONE && random.nextInt(4) == 0) {
                String zero = row[i] < 10 && random.nextInt(8) == 0 ? "0" : "";
                items.add(letters.charAt(i) + zero + row[i]);
            }
        }
        java.util.Collections.shuffle(items, random);
        return String.join("", items);
    }

    boolean may(int master, int servant) {
        return servants[servant][1] != master;
    }

    boolean counts(List<int[]> all, int i) {
        int[] it = all.get(i);
        if (it[0] < 10 && !may(it[0], it[1])) {
            return false;
        }
        if (law == null) {
            return true;
        }
        int often = 0;
        int since = 1000;
        for (int[] other : all.subList(0, i)) {
            often += other[0] == it[0] && other[1] == it[1] ? 1 : 0;
            since = other[1] == it[1] ? it[2] - other[2] : since;
        }
        return law.worth(it[0], it[1], it[2], often, since) > 0;
    }

    int[] leans(List<int[]> all, int minute) {
        int[] leans = new int[servants.length];
        for (int s = 0; s < leans.length; s++) {
            leans[s] = NONE;
            for (int i = all.size() - 1; i >= 0; i--) {
                int[] it = all.get(i);
                if (it[1] == s && it[2] <= minute && counts(all, i)) {
                    leans[s] = last == 0 || minute - it[2] < last ? it[0] : NONE;
                    break;
                }
            }
        }
        return leans;
    }

    /** Servant, whom it leans on, ..; a master at the end, or nobody (-1), or -2 for going round. */
    static List<Integer> row(int[] leans, int servant) {
        List<Integer> row = new ArrayList<>();
        Set<Integer> met = new HashSet<>();
        int at = 10 + servant;
        while (at >= 10) {
            if (!met.add(at)) {
                row.add(-2);
                return row;
            }
            row.add(at);
            at = leans[at - 10];
        }
        row.add(at);
        return row;
    }

    static int head(int[] leans, int servant) {
        List<Integer> row = row(leans, servant);
        return Math.max(NONE, row.get(row.size() - 1));
    }

    static int holds(int[] leans, int master) {
        int bits = 0;
        for (int s = 0; s < leans.length; s++) {
            bits |= head(leans, s) == master ? 1 << s : 0;
        }
        return bits;
    }

    int leads(int servant, int minute) {
        int[] leans = leans(thanks, minute);
        int bits = 0;
        for (int s = 0; s < leans.length; s++) {
            bits |= s != servant && row(leans, s).contains(10 + servant) ? 1 << s : 0;
        }
        return bits;
    }

    int longest(int minute, int what) {
        int[] leans = leans(thanks, minute);
        int best = NONE;
        int most = NONE;
        for (int s = 0; s < leans.length; s++) {
            int many = row(leans, s).size() - 1;
            if (head(leans, s) != NONE && many > most) {
                most = many;
                best = s;
            }
        }
        return what == 0 ? best : most;
    }

    private int[] leansWith(int master, int bits, int minute) {
        int[] leans = leans(thanks, minute);
        for (int s = 0; s < leans.length; s++) {
            leans[s] = (bits >> s & 1) == 1 ? master : leans[s];
        }
        return leans;
    }

    /** One (sign 1: most), cut (sign -1: fewest). */
    int one(int master, int holder, int sign, int minute, int what) {
        int best = NONE;
        int most = NONE;
        for (int s = 0; s < servants.length; s++) {
            int many = Integer.bitCount(holds(leansWith(master, 1 << s, minute), holder));
            if (may(master, s) && (best == NONE || sign * many > sign * most)) {
                best = s;
                most = many;
            }
        }
        return what == 0 ? best : most;
    }

    int all(int master, int minute, int what) {
        int best = NONE;
        for (int bits = 0; bits < 1 << servants.length; bits++) {
            boolean may = true;
            for (int s = 0; s < servants.length; s++) {
                may &= (bits >> s & 1) == 0 || may(master, s);
            }
            boolean has = holds(leansWith(master, bits, minute), master) == (1 << servants.length) - 1;
            if (may && has && (best == NONE || Integer.bitCount(bits) < Integer.bitCount(best))) {
                best = bits;
            }
        }
        return best == NONE || what == 1 ? best : Integer.bitCount(best);
    }

    /** Whom each of minutes 0 .. 1000 has as heads. */
    int[][] heads(List<int[]> all) {
        boolean[] counts = new boolean[all.size()];
        for (int i = 0; i < counts.length; i++) {
            counts[i] = counts(all, i);
        }
        int[][] heads = new int[1001][servants.length];
        for (int minute = 0; minute <= 1000; minute++) {
            int[] leans = new int[servants.length];
            Arrays.fill(leans, NONE);
            for (int i = 0; i < counts.length; i++) {
                int[] it = all.get(i);
                if (counts[i] && it[2] <= minute) {
                    leans[it[1]] = last == 0 || minute - it[2] < last ? it[0] : NONE;
                }
            }
            for (int s = 0; s < leans.length; s++) {
                heads[minute][s] = head(leans, s);
            }
        }
        return heads;
    }

    int wages(int[][] heads, int master, int from, int to) {
        int sum = 0;
        for (int minute = from; minute < to; minute++) {
            for (int s = 0; s < servants.length; s++) {
                sum += heads[minute][s] == master ? servants[s][2] : 0;
            }
        }
        return sum;
    }

    int changes(int[][] heads, int servant, int from, int to) {
        int many = 0;
        for (int minute = from; minute <= to; minute++) {
            many += heads[minute][servant] != (minute == 0 ? NONE : heads[minute - 1][servant]) ? 1 : 0;
        }
        return many;
    }

    int swing(int minute, int what) {
        int[] leans = leans(thanks, minute);
        int best = NONE;
        int most = 0;
        for (int i = 0; i < thanks.size(); i++) {
            List<int[]> left = new ArrayList<>(thanks);
            left.remove(i);
            int[] others = leans(left, minute);
            int many = 0;
            for (int s = 0; s < leans.length; s++) {
                many += head(leans, s) != head(others, s) ? 1 : 0;
            }
            if (many > most) {
                most = many;
                best = i;
            }
        }
        return best == NONE || what == 0 ? best : most;
    }

    int apart(int[][] heads, int master, int from, int to, int what) {
        int most = 0;
        int first = NONE;
        for (int start = from; start < to; start++) {
            int end = start;
            while (end < to && Arrays.stream(heads[end]).noneMatch(head -> head == master)) {
                end++;
            }
            if (end - start > most) {
                most = end - start;
                first = start;
            }
        }
        return what == 0 ? most : first;
    }

    int loyal(int[][] heads, int master, int from, int to, int what) {
        int best = NONE;
        int most = 0;
        for (int s = 0; s < servants.length; s++) {
            int many = 0;
            for (int minute = from; minute < to; minute++) {
                many += heads[minute][s] == master ? 1 : 0;
            }
            if (many > most) {
                most = many;
                best = s;
            }
        }
        return best == NONE || what == 0 ? best : most;
    }

    /** The least of minutes * times + thanks (times 0: thanks alone) over all rows of plain acts; NONE: it can't be. */
    int plan(int master, int gone, int times) {
        int[] start = new int[3 + servants.length]; // done, thanked, master's room, rooms
        start[2] = masters[master];
        for (int s = 0; s < servants.length; s++) {
            start[3 + s] = servants[s][0];
        }
        Map<List<Integer>, Integer> least = new HashMap<>();
        PriorityQueue<int[]> open = new PriorityQueue<>((a, b) -> Integer.compare(a[0], b[0]));
        push(open, least, 0, start);
        while (!open.isEmpty()) {
            int[] entry = open.poll();
            int[] state = Arrays.copyOfRange(entry, 1, entry.length);
            if (least.get(key(state)) < entry[0]) {
                continue;
            }
            if (state[0] == (1 << tasks.length) - 1) {
                return entry[0];
            }
            for (int s = 0; s < servants.length; s++) {
                if (s != gone && may(master, s)) {
                    int[] next = state.clone();
                    next[1] |= 1 << s;
                    next[2] = state[3 + s];
                    push(open, least, entry[0] + (Math.abs(state[2] - state[3 + s]) + 1) * times + 1, next);
                }
                for (int room = 0; room < rooms && (state[1] >> s & 1) == 1; room++) {
                    int[] next = state.clone();
                    next[3 + s] = room;
                    push(open, least, entry[0] + Math.abs(room - state[3 + s]) * times, next);
                }
            }
            for (int t = 0; t < tasks.length; t++) {
                int[] next = done(state, t);
                if (next != null) {
                    push(open, least, entry[0] + tasks[t][2] * times, next);
                }
            }
        }
        return NONE;
    }

    private int[] done(int[] state, int t) {
        int after = tasks[t][3];
        if ((state[0] >> t & 1) == 1 || after != NONE && (state[0] >> after & 1) == 0) {
            return null;
        }
        int[] next = state.clone();
        next[0] |= 1 << t;
        int hands = 0;
        for (int s = 0; s < servants.length && hands < tasks[t][1]; s++) {
            if ((state[1] >> s & 1) == 1 && state[3 + s] == tasks[t][0]) {
                hands++;
                next[1] &= once ? ~(1 << s) : ~0;
            }
        }
        return hands == tasks[t][1] ? next : null;
    }

    private static List<Integer> key(int[] state) {
        List<Integer> key = new ArrayList<>();
        for (int part : state) {
            key.add(part);
        }
        return key;
    }

    private static void push(PriorityQueue<int[]> open, Map<List<Integer>, Integer> least, int cost, int[] state) {
        Integer known = least.get(key(state));
        if (known == null || cost < known) {
            least.put(key(state), cost);
            int[] entry = new int[state.length + 1];
            entry[0] = cost;
            System.arraycopy(state, 0, entry, 1, state.length);
            open.add(entry);
        }
    }

    int ruin(int master) {
        if (plan(master, NONE, 1000) == NONE) {
            return NONE;
        }
        int best = NONE;
        int most = NONE;
        for (int s = 0; s < servants.length; s++) {
            int cost = plan(master, s, 1000);
            int minutes = cost == NONE ? 1000000 : cost / 1000;
            if (minutes > most) {
                most = minutes;
                best = s;
            }
        }
        return best;
    }

    int bars(int master) {
        int hands = 0;
        for (int s = 0; s < servants.length; s++) {
            hands += may(master, s) ? 1 : 0;
        }
        int bits = 0;
        for (int t = 0; t < tasks.length; t++) {
            for (int at = t; at != NONE; at = tasks[at][3]) {
                bits |= tasks[at][1] > hands ? 1 << t : 0;
            }
        }
        return bits;
    }

    /** Worth and best turn of two rivals: {value, turn}. */
    int[] rivals(int one, int other, int n) {
        int[] owners = new int[servants.length];
        return rivals(new int[] {one, other}, new int[] {masters[one], masters[other]}, owners, 0, 2 * n, new HashMap<>());
    }

    private int[] rivals(int[] who, int[] at, int[] owners, int turn, int turns, Map<String, int[]> known) {
        if (turn == turns) {
            int more = 0;
            for (int owner : owners) {
                more += owner == 1 ? 1 : owner == 2 ? -1 : 0;
            }
            return new int[] {more, 0};
        }
        String key = turn + Arrays.toString(at) + Arrays.toString(owners);
        if (known.containsKey(key)) {
            return known.get(key);
        }
        int mover = turn % 2;
        int[] best = null;
        for (int act = 0; act < 3 + servants.length; act++) {
            int[] nextAt = at.clone();
            int[] nextOwners = owners.clone();
            nextAt[mover] += act == 1 ? 1 : act == 2 ? -1 : 0;
            boolean can = nextAt[mover] >= 0 && nextAt[mover] < rooms;
            if (act >= 3) {
                can = servants[act - 3][0] == at[mover] && may(who[mover], act - 3);
                nextOwners[act - 3] = mover + 1;
            }
            if (can) {
                int value = rivals(who, nextAt, nextOwners, turn + 1, turns, known)[0];
                if (best == null || (mover == 0 ? value > best[0] : value < best[0])) {
                    best = new int[] {value, act};
                }
            }
        }
        known.put(key, best);
        return best;
    }

    /** All rows of n thanks, one after the other. */
    long rows(int[] seen, int n, int[] leans) {
        if (n == 0) {
            for (int s = 0; s < seen.length; s++) {
                if (seen[s] != NONE && (seen[s] == 9 ? NONE : seen[s]) != leans[s]) {
                    return 0;
                }
            }
            return 1;
        }
        long sum = 0;
        for (int m = 0; m < masters.length; m++) {
            for (int s = 0; s < servants.length; s++) {
                if (may(m, s)) {
                    int[] next = leans.clone();
                    next[s] = m;
                    sum += rows(seen, n - 1, next);
                }
            }
        }
        return sum;
    }

    int fewest() {
        int best = NONE;
        for (int bits = (1 << masters.length) - 1; bits > 0; bits--) {
            boolean each = true;
            for (int s = 0; s < servants.length; s++) {
                boolean some = false;
                for (int m = 0; m < masters.length; m++) {
                    some |= (bits >> m & 1) == 1 && may(m, s);
                }
                each &= some;
            }
            if (each && (best == NONE || Integer.bitCount(bits) <= Integer.bitCount(best))) {
                best = bits;
            }
        }
        return best;
    }
}
