import java.util.ArrayList;
import java.util.List;
import java.util.Random;

/** Promises 10 to 20 and 30 to 35: thanks, who obeys whom, minute by minute. */
public final class ThanksTest {
    private static final Check CHECK = new Check("ThanksTest");
    private static final int HIDDEN = LastThanked.HIDDEN;

    public static void main(String[] args) {
        refusals();
        bounds();
        laws();
        chains();
        spans();
        Random random = new Random(7);
        for (int i = 0; i < 1500; i++) {
            randomRun(random);
        }
        CHECK.end();
    }

    private static void refusals() {
        LastThanked x = Check.house("r3;s;so0;m;m");
        CHECK.due("who 2", x.thank(2, 0, 0), -1);
        CHECK.due("who -1", x.thank(-1, 0, 0), -1);
        CHECK.due("who 9", x.thank(9, 0, 0), -1);
        CHECK.due("who 12", x.thank(12, 0, 0), -1);
        CHECK.due("who least", x.thank(Integer.MIN_VALUE, 0, 0), -1);
        CHECK.due("servant 2", x.thank(0, 2, 0), -1);
        CHECK.due("servant -1", x.thank(0, -1, 0), -1);
        CHECK.due("itself", x.thank(11, 1, 0), -1);
        CHECK.due("minute -1", x.thank(0, 0, -1), -1);
        CHECK.due("minute 1000", x.thank(0, 0, 1000), -1);
        CHECK.due("none yet", x.count(6), 0);
        CHECK.due("undo none", x.undo(), -1);
        CHECK.due("counted none", x.counted(0), -1);
        CHECK.due("first", x.thank(0, 0, 5), 1);
        CHECK.due("earlier", x.thank(0, 0, 4), -1);
        CHECK.due("barred ones are told", x.thank(0, 1, 5), 2);
        CHECK.due("and don't count", x.counted(1), 0);
        CHECK.due("counted", x.counted(0), 1);
        CHECK.due("counted(2)", x.counted(2), -1);
        CHECK.due("counted(-1)", x.counted(-1), -1);
        CHECK.due("undo", x.undo(), 1);
        CHECK.due("a servant's", x.thank(10, 1, 999), 2);
        for (int i = 3; i <= 40; i++) {
            CHECK.due("more", x.thank(1, 1, 999), i);
        }
        CHECK.due("forty-first", x.thank(1, 1, 999), -1);
        CHECK.due("undo", x.undo(), 39);
        CHECK.due("fortieth again", x.thank(1, 1, 999), 40);
    }

    private static void bounds() {
        LastThanked x = Check.house("r3;s;so0;m;m");
        CHECK.due("leans no such", x.leans(2, 0), HIDDEN);
        CHECK.due("leans below", x.leans(0, -1), HIDDEN);
        CHECK.due("head no such", x.head(-1, 0), HIDDEN);
        CHECK.due("head below", x.head(0, -1), HIDDEN);
        CHECK.due("leans late", x.leans(0, Integer.MAX_VALUE), -1);
        CHECK.due("holds no such", x.holds(2, 0), -1);
        CHECK.due("holds below", x.holds(0, -1), -1);
        CHECK.due("holds none", x.holds(0, 0), 0);
        CHECK.due("leads no such", x.leads(2, 0), -1);
        CHECK.due("leads below", x.leads(0, -1), -1);
        CHECK.due("leads none", x.leads(0, 0), 0);
        CHECK.due("longest nobody", x.longest(0, 0), -1);
        CHECK.due("longest nobody", x.longest(0, 1), -1);
        x.thank(0, 0, 0);
        CHECK.due("longest what", x.longest(0, 2), -1);
        CHECK.due("longest what", x.longest(0, -1), -1);
        CHECK.due("longest below", x.longest(-1, 0), -1);
        CHECK.due("longest", x.longest(0, 0), 0);
        CHECK.due("longest", x.longest(0, 1), 1);
        int[][] wrong = {{2, 0, 0}, {-1, 0, 0}, {0, -1, 0}, {0, 0, 2}, {0, 0, -1}};
        for (int[] row : wrong) {
            CHECK.due("one", x.one(row[0], row[1], row[2]), -1);
            CHECK.due("all", x.all(row[0], row[1], row[2]), -1);
            CHECK.due("all", x.all(row[0] == 0 ? 1 : row[0], row[1], row[2]), -1);
            CHECK.due("cut", x.cut(row[0], 1, row[1], row[2]), -1);
            CHECK.due("cut", x.cut(1, row[0], row[1], row[2]), -1);
        }
        CHECK.due("cut alike", x.cut(1, 1, 0, 0), -1);
        CHECK.due("all can't", x.all(0, 0, 0), -1);
        CHECK.due("all can", x.all(1, 0, 0), 2);
        CHECK.due("all can", x.all(1, 0, 1), 3);
        int[][] spans = {{-1, 5}, {5, 4}, {0, 1001}, {1001, 1001}};
        for (int[] span : spans) {
            CHECK.due("wages", x.wages(0, span[0], span[1]), -1);
            CHECK.due("changes", x.changes(0, span[0], span[1]), -1);
            CHECK.due("apart", x.apart(0, span[0], span[1], 0), HIDDEN);
            CHECK.due("loyal", x.loyal(0, span[0], span[1], 0), -1);
        }
        CHECK.due("wages no such", x.wages(2, 0, 5), -1);
        CHECK.due("changes no such", x.changes(2, 0, 5), -1);
        CHECK.due("apart no such", x.apart(2, 0, 5, 0), HIDDEN);
        CHECK.due("apart what", x.apart(0, 0, 5, 2), HIDDEN);
        CHECK.due("loyal no such", x.loyal(-1, 0, 5, 0), -1);
        CHECK.due("loyal what", x.loyal(0, 0, 5, 2), -1);
        CHECK.due("swing what", x.swing(0, 2), -1);
        CHECK.due("swing below", x.swing(-1, 0), -1);
        CHECK.due("path no such", x.path(2, 0, -1), HIDDEN);
        CHECK.due("path below", x.path(0, -1, -1), HIDDEN);
        CHECK.due("path i", x.path(0, 0, -2), HIDDEN);
        CHECK.due("path none", x.path(1, 0, -1), -1);
        CHECK.due("path", x.path(0, 0, -1), 1);
        CHECK.due("path 0", x.path(0, 0, 0), 0);
        CHECK.due("path 1", x.path(0, 0, 1), -1);
        LastThanked barred = Check.house("r2;so0;m;m");
        CHECK.due("one may none", barred.one(0, 0, 0), -1);
        CHECK.due("one may none", barred.one(0, 0, 1), -1);
        CHECK.due("cut may none", barred.cut(0, 1, 0, 1), -1);
    }

    private static int counted(String law, int[][] thanks, int i) {
        LastThanked x = Check.house("r3;s;s;so0;m;m");
        for (int[] it : thanks) {
            x.thank(it[0], it[1], it[2]);
        }
        CHECK.due("law " + law, Check.tell(x, 1, law), 0);
        CHECK.due("without a law", x.counted(0), 1);
        x.set(0, 0);
        return x.counted(i);
    }

    private static void laws() {
        int[][] thanks = {{0, 0, 3}, {1, 0, 3}, {10, 1, 7}, {0, 0, 9}, {0, 2, 9}, {0, 0, 9}};
        Object[][] rows = {{"y:1", 0, 1}, {"y:0", 0, 0}, {"y:0-1", 0, 0}, {"y:m=0?1", 0, 1}, {"y:m=0?1", 1, 0},
            {"y:m=10&s=1&t=7?1", 2, 1}, {"y:n=0?1", 0, 1}, {"y:n=1&l=6?1", 3, 1}, {"y:n=2&l=0?1", 5, 1},
            {"y:l=1000?1", 0, 1}, {"y:l=0?1", 1, 1}, {"y:l=1000?1", 2, 1}, {"y:1", 4, 0}, {"y:m=1?1;y:m=0?0;y:1", 0, 0},
            {"y:m=1?1;y:0", 1, 1}, {"y:9999*9999-9999*101+1=1-8*2+5?1", 0, 0}, {"y:9999*9999=1000*1000?1", 0, 1},
            {"y:[0-9999]*9999=0-1000*1000?1", 0, 1}, {"y:7/0=0?1", 0, 1}, {"y:[0-7]/2=0-3?1", 0, 1},
            {"y:2+3*4=14&10-3-2=5&20/2/5=2?1", 0, 1}, {"y:m=5&s=0|t=3?1", 0, 1}, {"y:m=0|s=5&t=5?1", 0, 1},
            {"y:!(m=0|s=1)?0;y:1", 0, 1}, {"y:!m=0&s=5?0;y:1", 0, 1}, {"y:!!t>2&!t>3?1", 0, 1}, {"y:m<1?1", 1, 0},
            {"y:1000*1000+1-1=9999*100+99?1", 0, 1},
            {"y:0-1000*1000-1+1=0-9999*100-99?1", 0, 1}};
        for (Object[] row : rows) {
            CHECK.due(row[0] + " " + row[1], counted((String) row[0], thanks, (Integer) row[1]), (Integer) row[2]);
        }
    }

    private static void chains() {
        LastThanked x = Check.house("r3;s;s;s;so0;m;m");
        x.thank(10, 1, 1);
        x.thank(11, 2, 1);
        x.thank(12, 3, 2);
        x.thank(0, 0, 4);
        CHECK.due("leans on a servant", x.leans(1, 1), 10);
        CHECK.due("before its minute", x.leans(1, 0), -1);
        CHECK.due("no head yet", x.head(3, 3), -1);
        CHECK.due("head", x.head(3, 4), 0);
        CHECK.due("holds", x.holds(0, 4), 15);
        CHECK.due("leads 0", x.leads(0, 3), 14);
        CHECK.due("leads 2", x.leads(2, 4), 8);
        CHECK.due("longest", x.longest(4, 0), 3);
        CHECK.due("how many", x.longest(4, 1), 4);
        CHECK.due("longest of nobody's", x.longest(3, 1), -1);
        CHECK.due("path", x.path(3, 4, -1), 4);
        CHECK.due("path 0", x.path(3, 4, 0), 12);
        CHECK.due("path 3", x.path(3, 4, 3), 0);
        CHECK.due("path 4", x.path(3, 4, 4), -1);
        CHECK.due("one of 1", x.one(1, 4, 0), 0);
        CHECK.due("one of 1", x.one(1, 4, 1), 4);
        CHECK.due("cut by 1", x.cut(1, 0, 4, 1), 0);
        CHECK.due("all by 1", x.all(1, 4, 0), 1);
        CHECK.due("all by 1", x.all(1, 4, 1), 1);
        CHECK.due("all by 0", x.all(0, 4, 0), 0);
        CHECK.due("all by 0", x.all(0, 4, 1), 0);
        CHECK.due("swing", x.swing(4, 0), 3);
        CHECK.due("swing", x.swing(4, 1), 4);
        CHECK.due("swing of nobody", x.swing(3, 0), -1);
        x.thank(13, 0, 5);
        CHECK.due("round", x.head(2, 5), -1);
        CHECK.due("round holds", x.holds(0, 5), 0);
        CHECK.due("round leads", x.leads(0, 5), 14);
        CHECK.due("round path", x.path(1, 5, -1), -1);
        CHECK.due("swing cuts the round", x.swing(5, 0), 4);
        CHECK.due("swing cuts the round", x.swing(5, 1), 4);
        x.undo();
        x.set(1, 2);
        CHECK.due("lasts one minute", x.leans(0, 5), 0);
        CHECK.due("not two", x.leans(0, 6), -1);
        x.set(1, 3);
        CHECK.due("lasts two", x.head(3, 4), -1);
        CHECK.due("lasts two", x.leans(3, 4), 12);
    }

    private static void spans() {
        LastThanked x = Check.house("r3;sw2;sw3;m;m");
        x.thank(0, 0, 2);
        x.thank(10, 1, 4);
        x.thank(1, 0, 8);
        CHECK.due("wages", x.wages(0, 0, 10), 2 * 6 + 3 * 4);
        CHECK.due("wages of one minute", x.wages(0, 2, 3), 2);
        CHECK.due("wages of none", x.wages(0, 5, 5), 0);
        CHECK.due("wages to the end", x.wages(1, 0, 1000), 5 * 992);
        CHECK.due("changes", x.changes(1, 0, 1000), 2);
        CHECK.due("changes", x.changes(1, 4, 4), 1);
        CHECK.due("changes", x.changes(1, 5, 7), 0);
        CHECK.due("changes", x.changes(1, 5, 8), 1);
        CHECK.due("apart", x.apart(0, 0, 12, 0), 4);
        CHECK.due("apart", x.apart(0, 0, 12, 1), 8);
        CHECK.due("apart, the first of two", x.apart(0, 0, 10, 1), 0);
        CHECK.due("apart never", x.apart(0, 2, 8, 0), 0);
        CHECK.due("apart never", x.apart(0, 2, 8, 1), -1);
        CHECK.due("loyal", x.loyal(0, 0, 10, 0), 0);
        CHECK.due("loyal", x.loyal(0, 0, 10, 1), 6);
        CHECK.due("loyal alike", x.loyal(0, 4, 10, 0), 0);
        CHECK.due("loyal never", x.loyal(1, 0, 8, 0), -1);
        CHECK.due("loyal never", x.loyal(1, 0, 8, 1), -1);
        x.set(1, 3);
        CHECK.due("wages that last", x.wages(0, 0, 10), 2 * 3 + 3);
        CHECK.due("changes that last", x.changes(1, 0, 1000), 2);
        LastThanked first = Check.house("r3;s;m");
        first.thank(0, 0, 0);
        CHECK.due("a change at minute 0", first.changes(0, 0, 0), 1);
        CHECK.due("ahead of minute 0 nobody", first.changes(0, 0, 5), 1);
        CHECK.due("not at 1", first.changes(0, 1, 5), 0);
    }

    private static void randomRun(Random random) {
        SlowHouse house = SlowHouse.random(random, 5, 6);
        LastThanked x = Check.house(house.text(random));
        int laws = random.nextInt(3);
        for (int i = 0; i < laws; i++) {
            SlowLaw law = new SlowLaw(random);
            while (law.text().length() > 160) {
                law = new SlowLaw(random);
            }
            CHECK.due("law", Check.tell(x, 1, law.text()), i);
            house.law = law;
        }
        x.set(0, laws - 1);
        house.last = random.nextInt(3) == 0 ? 0 : 1 + random.nextInt(20);
        x.set(1, house.last);
        int minute = random.nextInt(5);
        int many = random.nextInt(41);
        int stride = 1 + random.nextInt(6);
        for (int i = 0; i < many; i++) {
            minute = Math.min(999, minute + random.nextInt(stride));
            int who = random.nextInt(2) == 0 ? random.nextInt(house.masters.length)
                    : 10 + random.nextInt(house.servants.length);
            int whom = random.nextInt(house.servants.length);
            if (who != 10 + whom) {
                house.thanks.add(new int[] {who, whom, minute});
            }
            int answer = x.thank(who, whom, minute);
            CHECK.due("thank", answer, who == 10 + whom ? -1 : house.thanks.size());
        }
        for (int i = 0; i < house.thanks.size(); i++) {
            CHECK.due("counted", x.counted(i), house.counts(house.thanks, i) ? 1 : 0);
        }
        for (int i = 0; i < 3; i++) {
            askMinute(x, house, random, random.nextInt(minute + 12));
        }
        askSpans(x, house, random, minute + 30);
    }

    private static void askMinute(LastThanked x, SlowHouse house, Random random, int minute) {
        int[] leans = house.leans(house.thanks, minute);
        for (int s = 0; s < leans.length; s++) {
            CHECK.due("leans", x.leans(s, minute), leans[s]);
            int head = SlowHouse.head(leans, s);
            CHECK.due("head", x.head(s, minute), head);
            CHECK.due("leads", x.leads(s, minute), house.leads(s, minute));
            List<Integer> row = new ArrayList<>(SlowHouse.row(leans, s));
            row.remove(0);
            CHECK.due("path", x.path(s, minute, -1), head == -1 ? -1 : row.size());
            int i = random.nextInt(5);
            CHECK.due("path i", x.path(s, minute, i), head == -1 || i >= row.size() ? -1 : row.get(i));
        }
        for (int m = 0; m < house.masters.length; m++) {
            CHECK.due("holds", x.holds(m, minute), SlowHouse.holds(leans, m));
            int other = random.nextInt(house.masters.length);
            for (int what = 0; what < 2; what++) {
                CHECK.due("one", x.one(m, minute, what), house.one(m, m, 1, minute, what));
                CHECK.due("all", x.all(m, minute, what), house.all(m, minute, what));
                int cut = other == m ? -1 : house.one(m, other, -1, minute, what);
                CHECK.due("cut", x.cut(m, other, minute, what), cut);
            }
        }
        for (int what = 0; what < 2; what++) {
            CHECK.due("longest", x.longest(minute, what), house.longest(minute, what));
            CHECK.due("swing", x.swing(minute, what), house.swing(minute, what));
        }
    }

    private static void askSpans(LastThanked x, SlowHouse house, Random random, int latest) {
        int[][] heads = house.heads(house.thanks);
        for (int i = 0; i < 6; i++) {
            int to = i == 0 ? 1000 : random.nextInt(Math.min(1000, latest) + 1);
            int from = i == 1 ? 0 : random.nextInt(to + 1);
            int m = random.nextInt(house.masters.length);
            int s = random.nextInt(house.servants.length);
            CHECK.due("wages", x.wages(m, from, to), house.wages(heads, m, from, to));
            CHECK.due("changes", x.changes(s, from, to), house.changes(heads, s, from, to));
            for (int what = 0; what < 2; what++) {
                CHECK.due("apart", x.apart(m, from, to, what), house.apart(heads, m, from, to, what));
                CHECK.due("loyal", x.loyal(m, from, to, what), house.loyal(heads, m, from, to, what));
            }
        }
    }
}
