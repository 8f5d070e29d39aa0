import java.util.NoSuchElementException;

public final class LastThanked {
    public static final int NONE = -1;
    public static final int HIDDEN = -1000000;

    private static final int NO_SORT = -2;
    private static final int HOUSE_SORT = 0;
    private static final int LAW_SORT = 1;
    private static final int MOST_BYTES = 160;
    private static final int MOST_SERVANTS = 5;
    private static final int MOST_MASTERS = 3;
    private static final int MOST_TASKS = 4;
    private static final int MOST_LAWS = 4;
    private static final int MOST_THANKS = 40;
    private static final int LATEST_MINUTE = 999;
    private static final int LAST_BOUND = 1000;
    private static final int LONGEST_LAST = 999;
    private static final int FIRST_SERVANT = 10;
    private static final int SEEN_NOBODY = 9;
    private static final int MOST_ROWS = 12;
    private static final int MOST_TURNS = 8;
    private static final int MOST_PLAN_SERVANTS = 3;
    private static final int MOST_PLAN_ROOMS = 5;
    private static final int ROOM = 0;
    private static final int BARRED = 1;
    private static final int WAGE = 2;
    private static final int HANDS = 1;
    private static final int MINUTES = 2;
    private static final int AFTER = 3;
    private static final long DRAW_TIMES = 6364136223846793005L;
    private static final long DRAW_PLUS = 1442695040888963407L;

    private final Tape tape = new Tape();
    private final HouseReader houseReader = new HouseReader(tape);
    private final LawReader lawReader = new LawReader(tape);
    private final House house = new House();
    private final Law[] laws = {new Law(), new Law(), new Law(), new Law()};
    private int lawCount;
    private int holding = NONE;
    private int last;
    private int once;
    private final Thanks thanks = new Thanks();
    private final Seen seen = new Seen();
    private final Thanks imageThanks = new Thanks();
    private final Seen imageSeen = new Seen();
    private boolean hasImage;
    private final Moment moment = new Moment();
    private final int[] tally = new int[MOST_SERVANTS];
    // The two with large tables are made when they are first asked: most runs never ask.
    private Planner planner;
    private Duel duel;

    public LastThanked() {
    }

    public int feed(int a, int b, int c, int d, int e) {
        int more = bytesIn(a) + bytesIn(b) + bytesIn(c) + bytesIn(d) + bytesIn(e);
        if (tape.length + more > MOST_BYTES) {
            return NONE;
        }
        tape.put(a);
        tape.put(b);
        tape.put(c);
        tape.put(d);
        tape.put(e);
        return tape.length;
    }

    public boolean end(int n) {
        if (n < 0 || n > tape.length) {
            return false;
        }
        tape.length = n;
        return true;
    }

    public int fault(int sort) {
        if (sort == HOUSE_SORT) {
            return houseReader.readHouse() ? NONE : houseReader.at;
        }
        if (sort == LAW_SORT) {
            return lawReader.readLaw() ? NONE : lawReader.at;
        }
        return NO_SORT;
    }

    public int text(int sort) {
        if (sort == HOUSE_SORT && houseReader.readHouse()) {
            house.become(houseReader.draft);
            thanks.clear();
            seen.clear();
            hasImage = false;
            tape.length = 0;
            return house.servants;
        }
        if (sort == LAW_SORT && lawCount < MOST_LAWS && lawReader.readLaw()) {
            laws[lawCount].become(lawReader.code, lawReader.size);
            tape.length = 0;
            lawCount++;
            return lawCount - 1;
        }
        return NONE;
    }

    public int servant(int servant, int what) throws NoSuchElementException {
        if (!isServant(servant) || what < ROOM || what > WAGE) {
            throw new NoSuchElementException();
        }
        return house.servantRows[servant][what];
    }

    public int master(int master) {
        return isMaster(master) ? house.masterRows[master][ROOM] : NONE;
    }

    public int task(int task, int what) {
        if (task < 0 || task >= house.tasks || what < ROOM || what > AFTER) {
            return HIDDEN;
        }
        return house.taskRows[task][what];
    }

    public boolean set(int what, int v) {
        if (what == 0 && v >= NONE && v < lawCount) {
            holding = v;
            thanks.judged = 0;
            return true;
        }
        if (what == 1 && v >= 0 && v <= LONGEST_LAST) {
            last = v;
            return true;
        }
        if (what == 2 && v >= 0 && v <= 1) {
            once = v;
            return true;
        }
        return false;
    }

    public int thank(int who, int servant, int minute) {
        if (!isMaster(who) && !isServant(who - FIRST_SERVANT)) {
            return NONE;
        }
        if (!isServant(servant) || who == FIRST_SERVANT + servant) {
            return NONE;
        }
        if (minute < Math.max(0, thanks.latest()) || minute > LATEST_MINUTE) {
            return NONE;
        }
        if (thanks.size >= MOST_THANKS) {
            return NONE;
        }
        thanks.append(who, servant, minute);
        return thanks.size;
    }

    public int counted(int i) {
        if (i < 0 || i >= thanks.size) {
            return NONE;
        }
        thanks.judgeRest(house, heldLaw());
        return thanks.counts[i] ? 1 : 0;
    }

    public int undo() {
        if (thanks.size <= 0) {
            return NONE;
        }
        thanks.dropLatest();
        return thanks.size;
    }

    public int leans(int servant, int minute) {
        if (!isServant(servant) || minute < 0) {
            return HIDDEN;
        }
        lookAt(minute);
        return moment.lean[servant];
    }

    public int head(int servant, int minute) {
        if (!isServant(servant) || minute < 0) {
            return HIDDEN;
        }
        lookAt(minute);
        return moment.headOf(servant);
    }

    public int holds(int master, int minute) {
        if (!isMaster(master) || minute < 0) {
            return NONE;
        }
        lookAt(minute);
        return moment.heldBy(master);
    }

    public int leads(int servant, int minute) {
        if (!isServant(servant) || minute < 0) {
            return NONE;
        }
        lookAt(minute);
        int bits = 0;
        for (int other = 0; other < house.servants; other++) {
            if (other != servant && moment.goesBy(other, servant)) {
                bits |= 1 << other;
            }
        }
        return bits;
    }

    public int longest(int minute, int what) {
        if (!isHalf(what) || minute < 0) {
            return NONE;
        }
        lookAt(minute);
        int longest = 0;
        int which = NONE;
        for (int servant = 0; servant < house.servants; servant++) {
            int steps = moment.steps(servant);
            if (steps > longest) {
                longest = steps;
                which = servant;
            }
        }
        return which == NONE || what == 0 ? which : longest;
    }

    public int one(int master, int minute, int what) {
        if (!isMaster(master) || !isHalf(what) || minute < 0) {
            return NONE;
        }
        lookAt(minute);
        int most = NONE;
        int which = NONE;
        for (int servant = 0; servant < house.servants; servant++) {
            if (house.may(master, servant)) {
                int held = heldAfter(master, servant, master);
                if (held > most) {
                    most = held;
                    which = servant;
                }
            }
        }
        return what == 0 ? which : most;
    }

    public int cut(int master, int other, int minute, int what) {
        if (!isMaster(master) || !isMaster(other) || master == other) {
            return NONE;
        }
        if (!isHalf(what) || minute < 0) {
            return NONE;
        }
        lookAt(minute);
        int fewest = NONE;
        int which = NONE;
        for (int servant = 0; servant < house.servants; servant++) {
            if (house.may(master, servant)) {
                int held = heldAfter(master, servant, other);
                if (which == NONE || held < fewest) {
                    fewest = held;
                    which = servant;
                }
            }
        }
        return what == 0 ? which : fewest;
    }

    public int wages(int master, int from, int to) {
        if (!isMaster(master) || !isSpan(from, to)) {
            return NONE;
        }
        tallyMinutes(master, from, to);
        int sum = 0;
        for (int servant = 0; servant < house.servants; servant++) {
            sum += tally[servant] * house.servantRows[servant][WAGE];
        }
        return sum;
    }

    public int plan(int master, int what) {
        if (!canPlan()) {
            return HIDDEN;
        }
        if (!isMaster(master) || what < 0 || what > 2) {
            return NONE;
        }
        Planner asked = askedPlanner();
        if (what == 0) {
            return asked.minutes(house, master, NONE, once);
        }
        return what == 1 ? asked.thanksThen(house, master, once) : asked.thanksAtAll(house, master, once);
    }

    public int bars(int master) {
        if (!isMaster(master)) {
            return NONE;
        }
        int hands = 0;
        for (int servant = 0; servant < house.servants; servant++) {
            if (house.may(master, servant)) {
                hands++;
            }
        }
        int bits = 0;
        for (int task = 0; task < house.tasks; task++) {
            int after = house.taskRows[task][AFTER];
            boolean waitsInVain = after != NONE && (bits >> after & 1) == 1;
            if (waitsInVain || house.taskRows[task][HANDS] > hands) {
                bits |= 1 << task;
            }
        }
        return bits;
    }

    public int stolen(int master, int servant) {
        if (!canPlan()) {
            return HIDDEN;
        }
        if (!isMaster(master) || !isServant(servant)) {
            return NONE;
        }
        return askedPlanner().minutes(house, master, servant, once);
    }

    public int ruin(int master) {
        if (!canPlan()) {
            return HIDDEN;
        }
        if (!isMaster(master)) {
            return NONE;
        }
        Planner asked = askedPlanner();
        if (asked.minutes(house, master, NONE, once) == NONE) {
            return NONE;
        }
        int most = NONE;
        int which = NONE;
        for (int servant = 0; servant < house.servants; servant++) {
            int minutes = asked.minutes(house, master, servant, once);
            if (minutes == NONE) {
                return servant;
            }
            if (minutes > most) {
                most = minutes;
                which = servant;
            }
        }
        return which;
    }

    public int rivals(int one, int other, int n, int what) {
        if (!isMaster(one) || !isMaster(other) || one == other) {
            return HIDDEN;
        }
        if (n < 1 || n > MOST_TURNS || !isHalf(what)) {
            return HIDDEN;
        }
        if (duel == null) {
            duel = new Duel();
        }
        duel.play(house, one, other, n);
        return what == 0 ? duel.value : duel.turn;
    }

    public boolean see(int servant, int whom) {
        if (!isServant(servant)) {
            return false;
        }
        if (whom != NONE && whom != SEEN_NOBODY && !isMaster(whom)) {
            return false;
        }
        seen.whom[servant] = whom;
        return true;
    }

    public long rows(int n) {
        if (!hasHouse() || n < 0 || n > MOST_ROWS) {
            return NONE;
        }
        return seen.waysOf(house, n);
    }

    public int fewest() {
        int best = NONE;
        for (int bits = 1; bits < 1 << house.masters; bits++) {
            boolean fewer = best == NONE || Integer.bitCount(bits) < Integer.bitCount(best);
            if (fewer && reachesEach(bits)) {
                best = bits;
            }
        }
        return best;
    }

    public int day(int n, long seed) {
        if (!hasHouse() || n < 1 || n > MOST_THANKS - thanks.size) {
            return NONE;
        }
        int minute = thanks.latest();
        if (minute + n > LATEST_MINUTE) {
            return NONE;
        }
        long x = seed;
        for (int i = 0; i < n; i++) {
            x = x * DRAW_TIMES + DRAW_PLUS;
            int who = draw(x, house.masters);
            x = x * DRAW_TIMES + DRAW_PLUS;
            int whom = draw(x, house.servants);
            minute++;
            thanks.append(who, whom, minute);
        }
        return thanks.size;
    }

    public int path(int servant, int minute, int i) {
        if (!isServant(servant) || minute < 0 || i < NONE) {
            return HIDDEN;
        }
        lookAt(minute);
        int steps = moment.steps(servant);
        if (steps == 0 || i >= steps) {
            return NONE;
        }
        return i == NONE ? steps : moment.step(servant, i + 1);
    }

    public int all(int master, int minute, int what) {
        if (!isMaster(master) || !isHalf(what) || minute < 0) {
            return NONE;
        }
        lookAt(minute);
        int best = NONE;
        for (int bits = 0; bits < 1 << house.servants; bits++) {
            boolean fewer = best == NONE || Integer.bitCount(bits) < Integer.bitCount(best);
            if (fewer && house.mayAll(master, bits) && moment.holdsAllWith(master, bits)) {
                best = bits;
            }
        }
        return best == NONE || what == 1 ? best : Integer.bitCount(best);
    }

    public int changes(int servant, int from, int to) {
        if (!isServant(servant) || !isSpan(from, to)) {
            return NONE;
        }
        int before = NONE;
        if (from > 0) {
            lookAt(from - 1);
            before = moment.headOf(servant);
        }
        int changes = 0;
        int minute = from;
        while (minute <= to) {
            lookAt(minute);
            int now = moment.headOf(servant);
            if (now != before) {
                changes++;
            }
            before = now;
            minute = Math.max(minute + 1, thanks.nextChange(minute, last));
        }
        return changes;
    }

    public int swing(int minute, int what) {
        if (!isHalf(what) || minute < 0) {
            return NONE;
        }
        lookAt(minute);
        for (int servant = 0; servant < house.servants; servant++) {
            tally[servant] = moment.headOf(servant);
        }
        int most = 0;
        int which = NONE;
        for (int i = 0; i < thanks.size && thanks.minute[i] <= minute; i++) {
            int turned = headsTurnedWithout(i, minute);
            if (turned > most) {
                most = turned;
                which = i;
            }
        }
        return which == NONE || what == 0 ? which : most;
    }

    public int apart(int master, int from, int to, int what) {
        if (!isMaster(master) || !isSpan(from, to) || !isHalf(what)) {
            return HIDDEN;
        }
        int most = 0;
        int first = NONE;
        int start = from;
        int minute = from;
        while (minute < to) {
            lookAt(minute);
            int next = Math.max(minute + 1, Math.min(to, thanks.nextChange(minute, last)));
            if (moment.heldBy(master) != 0) {
                start = next;
            } else if (next - start > most) {
                most = next - start;
                first = start;
            }
            minute = next;
        }
        return what == 0 ? most : first;
    }

    public int loyal(int master, int from, int to, int what) {
        if (!isMaster(master) || !isSpan(from, to) || !isHalf(what)) {
            return NONE;
        }
        tallyMinutes(master, from, to);
        int most = 0;
        int which = NONE;
        for (int servant = 0; servant < house.servants; servant++) {
            if (tally[servant] > most) {
                most = tally[servant];
                which = servant;
            }
        }
        return which == NONE || what == 0 ? which : most;
    }

    public int image() {
        if (!hasHouse()) {
            return NONE;
        }
        imageThanks.become(thanks);
        imageSeen.become(seen);
        hasImage = true;
        return thanks.size;
    }

    public int back() {
        if (!hasImage) {
            return NONE;
        }
        thanks.become(imageThanks);
        seen.become(imageSeen);
        return thanks.size;
    }

    public int count(int what) {
        switch (what) {
            case 0:
                return house.rooms;
            case 1:
                return house.servants;
            case 2:
                return house.masters;
            case 3:
                return house.tasks;
            case 4:
                return lawCount;
            case 5:
                return tape.length;
            case 6:
                return thanks.size;
            case 7:
                return holding;
            case 8:
                return last;
            case 9:
                return once;
            default:
                return HIDDEN;
        }
    }

    private boolean hasHouse() {
        return house.servants > 0;
    }

    private boolean isServant(int servant) {
        return servant >= 0 && servant < house.servants;
    }

    private boolean isMaster(int master) {
        return master >= 0 && master < house.masters;
    }

    // Many answers have two halves: which one, and how many.
    private static boolean isHalf(int what) {
        return what == 0 || what == 1;
    }

    private static boolean isSpan(int from, int to) {
        return from >= 0 && to >= from && to <= LAST_BOUND;
    }

    private Law heldLaw() {
        return holding >= 0 && holding < lawCount ? laws[holding] : null;
    }

    private void lookAt(int minute) {
        thanks.judgeRest(house, heldLaw());
        moment.look(thanks, thanks.counts, house.servants, minute, last);
    }

    // How many the holder has at the moment looked at, if the master thanks the servant then.
    private int heldAfter(int master, int servant, int holder) {
        int before = moment.lean[servant];
        moment.lean[servant] = master;
        int held = Integer.bitCount(moment.heldBy(holder));
        moment.lean[servant] = before;
        return held;
    }

    private void tallyMinutes(int master, int from, int to) {
        for (int servant = 0; servant < MOST_SERVANTS; servant++) {
            tally[servant] = 0;
        }
        int minute = from;
        while (minute < to) {
            lookAt(minute);
            int next = Math.max(minute + 1, Math.min(to, thanks.nextChange(minute, last)));
            int held = moment.heldBy(master);
            for (int servant = 0; servant < house.servants; servant++) {
                tally[servant] += (held >> servant & 1) * (next - minute);
            }
            minute = next;
        }
    }

    // The tally holds the heads with all thanks.
    private int headsTurnedWithout(int left, int minute) {
        thanks.judgeWithout(left, house, heldLaw());
        moment.look(thanks, thanks.trial, house.servants, minute, last);
        int turned = 0;
        for (int servant = 0; servant < house.servants; servant++) {
            if (moment.headOf(servant) != tally[servant]) {
                turned++;
            }
        }
        return turned;
    }

    private boolean canPlan() {
        return hasHouse() && house.servants <= MOST_PLAN_SERVANTS && house.rooms <= MOST_PLAN_ROOMS;
    }

    private Planner askedPlanner() {
        if (planner == null) {
            planner = new Planner();
        }
        return planner;
    }

    private boolean reachesEach(int masters) {
        for (int servant = 0; servant < house.servants; servant++) {
            boolean reached = false;
            for (int master = 0; master < house.masters; master++) {
                if ((masters >> master & 1) == 1 && house.may(master, servant)) {
                    reached = true;
                }
            }
            if (!reached) {
                return false;
            }
        }
        return true;
    }

    private static int draw(long x, int k) {
        return k > 0 ? (int) ((x >>> 33) % k) : 0;
    }

    private static int bytesIn(int word) {
        int some = 0;
        for (int shift = 24; shift >= 0; shift -= 8) {
            if ((word >>> shift & 255) != 0) {
                some++;
            }
        }
        return some;
    }

    private static final class Tape {
        final int[] bytes = new int[MOST_BYTES];
        int length;

        void put(int word) {
            for (int shift = 24; shift >= 0; shift -= 8) {
                int sign = word >>> shift & 255;
                if (sign != 0 && length < MOST_BYTES) {
                    bytes[length] = sign;
                    length++;
                }
            }
        }

        int signAt(int place) {
            return place >= 0 && place < length && place < MOST_BYTES ? bytes[place] : NONE;
        }
    }

    // Goes along the tape; where reading fails, it stands at the fault.
    private abstract static class Reader {
        final Tape tape;
        int at;

        Reader(Tape tape) {
            this.tape = tape;
        }

        // The sign behind the blanks; NONE at the end.
        final int next() {
            while (at < tape.length && at < MOST_BYTES && tape.bytes[at] == ' ') {
                at++;
            }
            return at < tape.length && at < MOST_BYTES ? tape.bytes[at] : NONE;
        }

        final boolean pass(int sign) {
            if (next() != sign) {
                return false;
            }
            at++;
            return true;
        }

        static boolean isDigit(int sign) {
            return sign >= '0' && sign <= '9';
        }

        // NONE: not a number here, or one digit too many, or out of bounds.
        final int number(int mostDigits, int low, int high) {
            if (!isDigit(next())) {
                return NONE;
            }
            int value = 0;
            for (int digits = 0; digits < mostDigits && isDigit(tape.signAt(at)); digits++) {
                value = value * 10 + tape.signAt(at) - '0';
                at++;
            }
            if (isDigit(tape.signAt(at))) {
                return NONE;
            }
            if (value < low || value > high) {
                at--;
                return NONE;
            }
            return value;
        }
    }

    private static final class HouseReader extends Reader {
        final House draft = new House();

        HouseReader(Tape tape) {
            super(tape);
        }

        boolean readHouse() {
            at = 0;
            draft.clear();
            if (!pass('r')) {
                return false;
            }
            int rooms = number(2, 2, 6);
            if (rooms == NONE) {
                return false;
            }
            draft.rooms = rooms;
            for (int clauses = 0; clauses < MOST_BYTES && next() == ';'; clauses++) {
                at++;
                if (!clause()) {
                    return false;
                }
            }
            return next() == NONE && draft.isWhole();
        }

        private boolean clause() {
            int kind = next();
            if (kind == 's' && draft.servants < MOST_SERVANTS) {
                at++;
                draft.servants++;
                return items("aow", draft.servantRows[draft.servants - 1]);
            }
            if (kind == 'm' && draft.masters < MOST_MASTERS) {
                at++;
                draft.masters++;
                return items("a", draft.masterRows[draft.masters - 1]);
            }
            if (kind == 't' && draft.tasks < MOST_TASKS) {
                at++;
                draft.tasks++;
                return items("rhnp", draft.taskRows[draft.tasks - 1]);
            }
            return false;
        }

        // The letters stand in the order of the row's columns.
        private boolean items(String letters, int[] row) {
            int told = 0;
            for (int i = 0; i <= letters.length(); i++) {
                int letter = next();
                int column = letter == NONE ? NONE : letters.indexOf((char) letter);
                if (column < 0) {
                    return true;
                }
                if ((told >> column & 1) == 1) {
                    return false;
                }
                told |= 1 << column;
                at++;
                int value = number(2, lowest(letter), highest(letter));
                if (value == NONE || column >= row.length) {
                    return false;
                }
                row[column] = value;
            }
            return true;
        }

        private static int lowest(int letter) {
            return letter == 'h' || letter == 'n' ? 1 : 0;
        }

        private int highest(int letter) {
            switch (letter) {
                case 'o':
                    return MOST_MASTERS - 1;
                case 'w':
                    return 9;
                case 'h':
                    return 3;
                case 'n':
                    return 30;
                case 'p':
                    return draft.tasks - 2;
                default:
                    return draft.rooms - 1;
            }
        }
    }

    // Puts a law down as code: numbers as they are, signs as their numbers below zero,
    // each sign behind what it works on, ';' behind each clause.
    private static final class LawReader extends Reader {
        private static final int DEEPEST = 6;

        final int[] code = new int[Law.MOST_CODE];
        int size;

        LawReader(Tape tape) {
            super(tape);
        }

        boolean readLaw() {
            at = 0;
            size = 0;
            if (!clause()) {
                return false;
            }
            for (int clauses = 0; clauses < MOST_BYTES && next() == ';'; clauses++) {
                at++;
                if (!clause()) {
                    return false;
                }
            }
            return next() == NONE;
        }

        private boolean clause() {
            if (!pass('y') || !pass(':')) {
                return false;
            }
            int sign = next();
            if (sign == '!' || sign == '(') {
                return condition(0) && guarded();
            }
            if (!sum(0)) {
                return false;
            }
            if (isComparison(next())) {
                return comparison(0) && moreUnits(0) && moreTruths(0) && guarded();
            }
            return emit(-';');
        }

        private boolean guarded() {
            return pass('?') && emit(-'?') && sum(0) && emit(-';');
        }

        private boolean condition(int depth) {
            return truth(depth) && moreTruths(depth);
        }

        private boolean moreTruths(int depth) {
            for (int i = 0; i < MOST_BYTES && next() == '|'; i++) {
                at++;
                if (!truth(depth) || !emit(-'|')) {
                    return false;
                }
            }
            return true;
        }

        private boolean truth(int depth) {
            return unit(depth) && moreUnits(depth);
        }

        private boolean moreUnits(int depth) {
            for (int i = 0; i < MOST_BYTES && next() == '&'; i++) {
                at++;
                if (!unit(depth) || !emit(-'&')) {
                    return false;
                }
            }
            return true;
        }

        private boolean unit(int depth) {
            int sign = next();
            if (sign != '!' && sign != '(') {
                return sum(depth) && comparison(depth);
            }
            if (depth >= DEEPEST) {
                return false;
            }
            at++;
            if (sign == '!') {
                return unit(depth + 1) && emit(-'!');
            }
            return condition(depth + 1) && pass(')');
        }

        private boolean comparison(int depth) {
            int sign = next();
            if (!isComparison(sign)) {
                return false;
            }
            at++;
            return sum(depth) && emit(-sign);
        }

        private boolean sum(int depth) {
            if (!term(depth)) {
                return false;
            }
            int sign = next();
            for (int i = 0; i < MOST_BYTES && (sign == '+' || sign == '-'); i++) {
                at++;
                if (!term(depth) || !emit(-sign)) {
                    return false;
                }
                sign = next();
            }
            return true;
        }

        private boolean term(int depth) {
            if (!atom(depth)) {
                return false;
            }
            int sign = next();
            for (int i = 0; i < MOST_BYTES && (sign == '*' || sign == '/'); i++) {
                at++;
                if (!atom(depth) || !emit(-sign)) {
                    return false;
                }
                sign = next();
            }
            return true;
        }

        private boolean atom(int depth) {
            int sign = next();
            if (isDigit(sign)) {
                int value = number(4, 0, 9999);
                return value != NONE && emit(value);
            }
            if (isLetter(sign)) {
                at++;
                return emit(-sign);
            }
            if (sign != '[' || depth >= DEEPEST) {
                return false;
            }
            at++;
            return sum(depth + 1) && pass(']');
        }

        private static boolean isLetter(int sign) {
            return sign == 'm' || sign == 's' || sign == 't' || sign == 'n' || sign == 'l';
        }

        private static boolean isComparison(int sign) {
            return sign == '=' || sign == '<' || sign == '>';
        }

        private boolean emit(int entry) {
            if (size >= Law.MOST_CODE) {
                return false;
            }
            code[size] = entry;
            size++;
            return true;
        }
    }

    private static final class House {
        int rooms;
        int servants;
        int masters;
        int tasks;
        final int[][] servantRows = new int[MOST_SERVANTS][3];
        final int[][] masterRows = new int[MOST_MASTERS][1];
        final int[][] taskRows = new int[MOST_TASKS][4];

        void clear() {
            rooms = 0;
            servants = 0;
            masters = 0;
            tasks = 0;
            for (int i = 0; i < MOST_SERVANTS; i++) {
                servantRows[i][ROOM] = 0;
                servantRows[i][BARRED] = NONE;
                servantRows[i][WAGE] = 1;
            }
            for (int i = 0; i < MOST_MASTERS; i++) {
                masterRows[i][ROOM] = 0;
            }
            for (int i = 0; i < MOST_TASKS; i++) {
                taskRows[i][ROOM] = 0;
                taskRows[i][HANDS] = 1;
                taskRows[i][MINUTES] = 5;
                taskRows[i][AFTER] = NONE;
            }
        }

        void become(House other) {
            rooms = other.rooms;
            servants = other.servants;
            masters = other.masters;
            tasks = other.tasks;
            for (int i = 0; i < MOST_SERVANTS; i++) {
                System.arraycopy(other.servantRows[i], 0, servantRows[i], 0, 3);
            }
            for (int i = 0; i < MOST_MASTERS; i++) {
                masterRows[i][ROOM] = other.masterRows[i][ROOM];
            }
            for (int i = 0; i < MOST_TASKS; i++) {
                System.arraycopy(other.taskRows[i], 0, taskRows[i], 0, 4);
            }
        }

        boolean isWhole() {
            if (servants < 1 || masters < 1) {
                return false;
            }
            for (int i = 0; i < servants; i++) {
                if (servantRows[i][BARRED] >= masters) {
                    return false;
                }
            }
            return true;
        }

        boolean may(int master, int servant) {
            return servantRows[servant][BARRED] != master;
        }

        boolean mayAll(int master, int bits) {
            for (int servant = 0; servant < servants; servant++) {
                if ((bits >> servant & 1) == 1 && !may(master, servant)) {
                    return false;
                }
            }
            return true;
        }
    }

    private static final class Law {
        // One entry a byte, and one that ends the last clause.
        static final int MOST_CODE = MOST_BYTES + 1;
        private static final int BOUND = 1000000;

        private final int[] code = new int[MOST_CODE];
        private int size;
        private final int[] stack = new int[MOST_CODE];
        private int height;

        void become(int[] entries, int many) {
            size = Math.min(many, Math.min(MOST_CODE, entries.length));
            System.arraycopy(entries, 0, code, 0, size);
        }

        int worth(int m, int s, int t, int n, int l) {
            height = 0;
            boolean holds = true;
            for (int i = 0; i < size; i++) {
                int sign = -code[i];
                if (!holds) {
                    holds = sign == ';';
                } else if (sign <= 0) {
                    push(code[i]);
                } else if (sign == ';') {
                    return pop();
                } else if (sign == '?') {
                    holds = pop() != 0;
                } else if (sign == 'm') {
                    push(m);
                } else if (sign == 's') {
                    push(s);
                } else if (sign == 't') {
                    push(t);
                } else if (sign == 'n') {
                    push(n);
                } else if (sign == 'l') {
                    push(l);
                } else {
                    operate(sign);
                }
            }
            return 0;
        }

        private void operate(int sign) {
            int right = pop();
            if (sign == '!') {
                push(right == 0 ? 1 : 0);
                return;
            }
            int left = pop();
            switch (sign) {
                case '&':
                    push(left & right);
                    break;
                case '|':
                    push(left | right);
                    break;
                case '=':
                    push(left == right ? 1 : 0);
                    break;
                case '<':
                    push(left < right ? 1 : 0);
                    break;
                case '>':
                    push(left > right ? 1 : 0);
                    break;
                default:
                    push(reckon(sign, left, right));
                    break;
            }
        }

        private static int reckon(int sign, long left, long right) {
            long result;
            if (sign == '+') {
                result = left + right;
            } else if (sign == '-') {
                result = left - right;
            } else if (sign == '*') {
                result = left * right;
            } else {
                result = right == 0 ? 0 : left / right;
            }
            return (int) Math.max(-BOUND, Math.min(BOUND, result));
        }

        private void push(int value) {
            if (height < MOST_CODE) {
                stack[height] = value;
                height++;
            }
        }

        private int pop() {
            if (height <= 0) {
                return 0;
            }
            height--;
            return stack[height];
        }
    }

    private static final class Thanks {
        private static final int NEVER = 1000;
        private static final int NO_CHANGE = 1000000000;

        final int[] who = new int[MOST_THANKS];
        final int[] whom = new int[MOST_THANKS];
        final int[] minute = new int[MOST_THANKS];
        final boolean[] counts = new boolean[MOST_THANKS];
        final boolean[] trial = new boolean[MOST_THANKS];
        int size;
        // So many of the first have been judged by the law that holds.
        int judged;

        void clear() {
            size = 0;
            judged = 0;
        }

        void become(Thanks other) {
            size = other.size;
            judged = 0;
            System.arraycopy(other.who, 0, who, 0, MOST_THANKS);
            System.arraycopy(other.whom, 0, whom, 0, MOST_THANKS);
            System.arraycopy(other.minute, 0, minute, 0, MOST_THANKS);
        }

        void append(int thanker, int servant, int when) {
            if (size < MOST_THANKS) {
                who[size] = thanker;
                whom[size] = servant;
                minute[size] = when;
                size++;
            }
        }

        void dropLatest() {
            if (size > 0) {
                size--;
                judged = Math.min(judged, size);
            }
        }

        int latest() {
            return size > 0 ? minute[size - 1] : NONE;
        }

        void judgeRest(House house, Law law) {
            while (judged < size) {
                counts[judged] = wouldCount(judged, NONE, house, law);
                judged++;
            }
        }

        // Fills the trial: who counts if one had not been.
        void judgeWithout(int left, House house, Law law) {
            for (int i = 0; i < size; i++) {
                boolean touched = i > left && whom[i] == whom[left];
                trial[i] = touched ? wouldCount(i, left, house, law) : i != left && counts[i];
            }
        }

        private boolean wouldCount(int i, int left, House house, Law law) {
            if (who[i] < FIRST_SERVANT && !house.may(who[i], whom[i])) {
                return false;
            }
            if (law == null) {
                return true;
            }
            int often = 0;
            int since = NEVER;
            for (int j = 0; j < i; j++) {
                if (j != left && whom[j] == whom[i]) {
                    since = minute[i] - minute[j];
                    often += who[j] == who[i] ? 1 : 0;
                }
            }
            return law.worth(who[i], whom[i], minute[i], often, since) > 0;
        }

        // The next minute at which somebody may lean otherwise.
        int nextChange(int now, int last) {
            int next = NO_CHANGE;
            for (int i = 0; i < size; i++) {
                if (minute[i] > now) {
                    next = Math.min(next, minute[i]);
                }
                if (last > 0 && minute[i] + last > now) {
                    next = Math.min(next, minute[i] + last);
                }
            }
            return next;
        }
    }

    // Who leans on whom at one minute.
    private static final class Moment {
        final int[] lean = new int[MOST_SERVANTS];
        private final int[] kept = new int[MOST_SERVANTS];
        private int servants;

        void look(Thanks thanks, boolean[] counts, int servants, int minute, int last) {
            this.servants = servants;
            for (int i = 0; i < MOST_SERVANTS; i++) {
                lean[i] = NONE;
            }
            for (int i = 0; i < thanks.size && thanks.minute[i] <= minute; i++) {
                if (counts[i]) {
                    boolean lasts = last == 0 || minute - thanks.minute[i] < last;
                    lean[thanks.whom[i]] = lasts ? thanks.who[i] : NONE;
                }
            }
        }

        int headOf(int servant) {
            int at = FIRST_SERVANT + servant;
            for (int i = 0; i <= servants && isServant(at); i++) {
                at = lean[at - FIRST_SERVANT];
            }
            return isServant(at) ? NONE : at;
        }

        // How many steps to the head; 0: it has none.
        int steps(int servant) {
            if (headOf(servant) == NONE) {
                return 0;
            }
            int at = FIRST_SERVANT + servant;
            int steps = 0;
            while (steps <= servants && isServant(at)) {
                at = lean[at - FIRST_SERVANT];
                steps++;
            }
            return steps;
        }

        int step(int servant, int steps) {
            int at = FIRST_SERVANT + servant;
            for (int i = 0; i < steps && isServant(at); i++) {
                at = lean[at - FIRST_SERVANT];
            }
            return at;
        }

        boolean goesBy(int servant, int other) {
            int at = FIRST_SERVANT + servant;
            for (int i = 0; i <= servants && isServant(at); i++) {
                if (at == FIRST_SERVANT + other) {
                    return true;
                }
                at = lean[at - FIRST_SERVANT];
            }
            return false;
        }

        int heldBy(int master) {
            int bits = 0;
            for (int servant = 0; servant < servants; servant++) {
                if (headOf(servant) == master) {
                    bits |= 1 << servant;
                }
            }
            return bits;
        }

        boolean holdsAllWith(int master, int thanked) {
            System.arraycopy(lean, 0, kept, 0, MOST_SERVANTS);
            for (int servant = 0; servant < servants; servant++) {
                if ((thanked >> servant & 1) == 1) {
                    lean[servant] = master;
                }
            }
            boolean all = heldBy(master) == (1 << servants) - 1;
            System.arraycopy(kept, 0, lean, 0, MOST_SERVANTS);
            return all;
        }

        private static boolean isServant(int who) {
            return who >= FIRST_SERVANT && who < FIRST_SERVANT + MOST_SERVANTS;
        }
    }

    private static final class Seen {
        final int[] whom = {NONE, NONE, NONE, NONE, NONE};
        private final long[] ways = new long[1 << MOST_SERVANTS];

        void clear() {
            for (int i = 0; i < MOST_SERVANTS; i++) {
                whom[i] = NONE;
            }
        }

        void become(Seen other) {
            System.arraycopy(other.whom, 0, whom, 0, MOST_SERVANTS);
        }

        // Told from the end on: the first thanks met of a servant are its last, and must be as seen;
        // those ahead of them are free. The ways stand by the set of servants met so far.
        long waysOf(House house, int n) {
            int sets = 1 << house.servants;
            for (int set = 0; set < sets; set++) {
                ways[set] = set == 0 ? 1 : 0;
            }
            for (int i = 0; i < n; i++) {
                for (int set = sets - 1; set >= 0; set--) {
                    ways[set] = waysOneLonger(house, set);
                }
            }
            long sum = 0;
            for (int set = 0; set < sets; set++) {
                sum += meetsAllSeen(house, set) ? ways[set] : 0;
            }
            return sum;
        }

        private long waysOneLonger(House house, int set) {
            long sum = 0;
            for (int servant = 0; servant < house.servants; servant++) {
                int bit = 1 << servant;
                if ((set & bit) != 0) {
                    sum += ways[set] * thankers(house, servant);
                    sum += ways[set ^ bit] * lastThankers(house, servant);
                }
            }
            return sum;
        }

        private int lastThankers(House house, int servant) {
            int seen = whom[servant];
            if (seen == NONE) {
                return thankers(house, servant);
            }
            return seen != SEEN_NOBODY && house.may(seen, servant) ? 1 : 0;
        }

        private static int thankers(House house, int servant) {
            int some = 0;
            for (int master = 0; master < house.masters; master++) {
                some += house.may(master, servant) ? 1 : 0;
            }
            return some;
        }

        private boolean meetsAllSeen(House house, int set) {
            for (int servant = 0; servant < house.servants; servant++) {
                boolean obeyed = whom[servant] != NONE && whom[servant] != SEEN_NOBODY;
                if (obeyed && (set >> servant & 1) == 0) {
                    return false;
                }
            }
            return true;
        }
    }

    // The least cost of each state of a plan. Servants go only when a task is done, and only its hands
    // come: going sooner is never better on one stair. With ONCE any hands there may be taken for the
    // lowest, as those there and thanked are alike but for their numbers: what one can do from then
    // on, another can. So states lead only to higher ones: more tasks done, or as many and more
    // servants thanked.
    private static final class Planner {
        private static final int MOST_STATES = 80000;
        private static final int NEVER = 1000000000;
        private static final int MINUTE = 1000;

        private final int[] least = new int[MOST_STATES];
        private final int[] place = new int[MOST_PLAN_SERVANTS];
        private House house;
        private int master;
        private int gone;
        private boolean once;
        private int minuteCost;
        private int sets;
        private int placings;
        private int states;
        private int done;
        private int thanked;
        private int room;
        private int cost;

        int minutes(House house, int master, int gone, int once) {
            int total = leastCost(house, master, gone, once, MINUTE);
            return total == NEVER ? NONE : total / MINUTE;
        }

        int thanksThen(House house, int master, int once) {
            int total = leastCost(house, master, NONE, once, MINUTE);
            return total == NEVER ? NONE : total % MINUTE;
        }

        int thanksAtAll(House house, int master, int once) {
            int total = leastCost(house, master, NONE, once, 0);
            return total == NEVER ? NONE : total;
        }

        // Each minute costs so much, each thanks 1.
        private int leastCost(House house, int master, int gone, int once, int minuteCost) {
            this.house = house;
            this.master = master;
            this.gone = gone;
            this.once = once == 1;
            this.minuteCost = minuteCost;
            begin();
            int best = NEVER;
            int all = (1 << house.tasks) - 1;
            for (int state = 0; state < states; state++) {
                if (least[state] != NEVER) {
                    unpack(state);
                    if (done == all) {
                        best = Math.min(best, cost);
                    } else {
                        thankOneMore();
                        doOneMore();
                    }
                }
            }
            return best;
        }

        private void begin() {
            placings = 1;
            for (int servant = 0; servant < house.servants; servant++) {
                placings *= house.rooms;
            }
            sets = 1 << house.servants;
            states = Math.min(MOST_STATES, (1 << house.tasks) * sets * house.rooms * placings);
            for (int state = 0; state < states; state++) {
                least[state] = NEVER;
            }
            int placing = 0;
            for (int servant = house.servants - 1; servant >= 0; servant--) {
                placing = placing * house.rooms + house.servantRows[servant][ROOM];
            }
            reach(0, 0, house.masterRows[master][ROOM], placing, 0);
        }

        private void unpack(int state) {
            cost = least[state];
            int rooms = Math.max(1, house.rooms);
            int rest = state;
            for (int servant = 0; servant < house.servants; servant++) {
                place[servant] = rest % rooms;
                rest /= rooms;
            }
            room = rest % rooms;
            rest /= rooms;
            thanked = rest & sets - 1;
            done = rest >> house.servants;
        }

        private void reach(int done, int thanked, int room, int placing, int cost) {
            int state = ((done * sets + thanked) * house.rooms + room) * placings + placing;
            if (state >= 0 && state < states && cost < least[state]) {
                least[state] = cost;
            }
        }

        private void thankOneMore() {
            int placing = 0;
            for (int servant = house.servants - 1; servant >= 0; servant--) {
                placing = placing * house.rooms + place[servant];
            }
            for (int servant = 0; servant < house.servants; servant++) {
                boolean free = servant != gone && house.may(master, servant);
                if (free && (thanked >> servant & 1) == 0) {
                    int minutes = Math.abs(room - place[servant]) + 1;
                    reach(done, thanked | 1 << servant, place[servant], placing, cost + minutes * minuteCost + 1);
                }
            }
        }

        private void doOneMore() {
            for (int task = 0; task < house.tasks; task++) {
                int after = house.taskRows[task][AFTER];
                boolean open = after == NONE || (done >> after & 1) == 1;
                if (open && (done >> task & 1) == 0) {
                    for (int hands = 1; hands <= thanked; hands++) {
                        boolean enough = Integer.bitCount(hands) == house.taskRows[task][HANDS];
                        if (enough && (hands & ~thanked) == 0) {
                            doWith(task, hands);
                        }
                    }
                }
            }
        }

        private void doWith(int task, int hands) {
            int minutes = house.taskRows[task][MINUTES];
            int placing = 0;
            for (int servant = house.servants - 1; servant >= 0; servant--) {
                boolean isHand = (hands >> servant & 1) == 1;
                int to = isHand ? house.taskRows[task][ROOM] : place[servant];
                minutes += Math.abs(to - place[servant]);
                placing = placing * house.rooms + to;
            }
            int left = once ? thanked & ~hands : thanked;
            reach(done | 1 << task, left, room, placing, cost + minutes * minuteCost);
        }
    }

    // Worth of each standing of two rivals, from the last turn back to the first. A standing: the
    // rooms of both, and of each servant who thanked it last (0 nobody, 1 the first, 2 the other).
    private static final class Duel {
        private static final int MOST_OWNINGS = 243;
        private static final int MOST_STANDINGS = 36 * MOST_OWNINGS;

        int value;
        int turn;
        private int[] now = new int[MOST_STANDINGS];
        private int[] then = new int[MOST_STANDINGS];
        private final int[] power = new int[MOST_SERVANTS];
        private House house;
        private int one;
        private int other;
        private int ownings;

        void play(House house, int one, int other, int n) {
            this.house = house;
            this.one = one;
            this.other = other;
            begin();
            for (int turns = 2 * n - 1; turns >= 1; turns--) {
                int[] old = then;
                then = now;
                now = old;
                turnBack(turns);
            }
            first();
        }

        private void begin() {
            ownings = 1;
            for (int servant = 0; servant < house.servants; servant++) {
                power[servant] = ownings;
                ownings *= 3;
            }
            for (int owning = 0; owning < ownings; owning++) {
                int more = moreOf(owning);
                for (int rooms = 0; rooms < house.rooms * house.rooms; rooms++) {
                    now[rooms * ownings + owning] = more;
                }
            }
        }

        private int moreOf(int owning) {
            int more = 0;
            for (int servant = 0; servant < house.servants; servant++) {
                int owner = ownerOf(owning, servant);
                more += owner == 1 ? 1 : 0;
                more -= owner == 2 ? 1 : 0;
            }
            return more;
        }

        private int ownerOf(int owning, int servant) {
            return power[servant] > 0 ? owning / power[servant] % 3 : 0;
        }

        // From what is worth then to what is worth now, so many turns after the start, in all rooms
        // that can have been come to.
        private void turnBack(int turns) {
            int mover = turns % 2 == 0 ? 1 : 2;
            int start = house.masterRows[one][ROOM];
            int otherStart = house.masterRows[other][ROOM];
            for (int room = 0; room < house.rooms; room++) {
                for (int otherRoom = 0; otherRoom < house.rooms; otherRoom++) {
                    boolean near = Math.abs(room - start) <= (turns + 1) / 2;
                    if (near && Math.abs(otherRoom - otherStart) <= turns / 2) {
                        int base = (room * house.rooms + otherRoom) * ownings;
                        int stair = mover == 1 ? house.rooms * ownings : ownings;
                        takeBest(mover, mover == 1 ? room : otherRoom, base, stair);
                    }
                }
            }
        }

        private void takeBest(int mover, int room, int base, int stair) {
            System.arraycopy(then, base, now, base, ownings);
            if (room + 1 < house.rooms) {
                takeBetter(mover, base, base + stair);
            }
            if (room > 0) {
                takeBetter(mover, base, base - stair);
            }
            for (int servant = 0; servant < house.servants; servant++) {
                if (canThank(mover, room, servant)) {
                    takeThanks(mover, base, servant);
                }
            }
        }

        private void takeBetter(int mover, int base, int toBase) {
            for (int owning = 0; owning < ownings; owning++) {
                takeWorth(mover, base + owning, then[toBase + owning]);
            }
        }

        private void takeThanks(int mover, int base, int servant) {
            for (int owning = 0; owning < ownings; owning++) {
                int thanked = owning + (mover - ownerOf(owning, servant)) * power[servant];
                takeWorth(mover, base + owning, then[base + thanked]);
            }
        }

        private void takeWorth(int mover, int standing, int worth) {
            if (mover == 1 ? worth > now[standing] : worth < now[standing]) {
                now[standing] = worth;
            }
        }

        private boolean canThank(int mover, int room, int servant) {
            return house.servantRows[servant][ROOM] == room && house.may(mover == 1 ? one : other, servant);
        }

        // The first turn, from the rooms at the start with nobody thanked.
        private void first() {
            int room = house.masterRows[one][ROOM];
            int base = (room * house.rooms + house.masterRows[other][ROOM]) * ownings;
            int stair = house.rooms * ownings;
            value = now[base];
            turn = 0;
            if (room + 1 < house.rooms) {
                prefer(now[base + stair], 1);
            }
            if (room > 0) {
                prefer(now[base - stair], 2);
            }
            for (int servant = 0; servant < house.servants; servant++) {
                if (canThank(1, room, servant)) {
                    prefer(now[base + power[servant]], 3 + servant);
                }
            }
        }

        private void prefer(int worth, int by) {
            if (worth > value) {
                value = worth;
                turn = by;
            }
        }
    }
}
