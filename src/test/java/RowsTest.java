import java.util.Arrays;
import java.util.Random;

/** Promises 26 to 29, 36, 37: what was seen, rows, fewest masters, days, images. */
public final class RowsTest {
    private static final Check CHECK = new Check("RowsTest");

    public static void main(String[] args) {
        seen();
        fewest();
        days();
        images();
        judgedAnew();
        Random random = new Random(17);
        for (int i = 0; i < 800; i++) {
            randomRows(random);
        }
        CHECK.end();
    }

    private static void seen() {
        LastThanked x = Check.house("r2;s;so0;m;m");
        CHECK.due("rows(0)", x.rows(0), 1);
        CHECK.due("rows(1)", x.rows(1), 3);
        CHECK.due("rows(12)", x.rows(12), 531441);
        CHECK.due("rows(13)", x.rows(13), -1);
        CHECK.due("rows(-1)", x.rows(-1), -1);
        CHECK.due("see no such servant", x.see(2, 0), false);
        CHECK.due("see no such servant", x.see(-1, 0), false);
        CHECK.due("see no such master", x.see(0, 2), false);
        CHECK.due("see -2", x.see(0, -2), false);
        CHECK.due("see 8", x.see(0, 8), false);
        CHECK.due("see 10", x.see(0, 10), false);
        CHECK.due("nothing changed", x.rows(1), 3);
        CHECK.due("see", x.see(0, 1), true);
        CHECK.due("rows seen", x.rows(1), 1);
        CHECK.due("rows seen", x.rows(2), 3 + 1);
        CHECK.due("none without thanks", x.rows(0), 0);
        CHECK.due("see nobody", x.see(1, 9), true);
        CHECK.due("rows seen", x.rows(2), 2);
        CHECK.due("see one who may not", x.see(1, 0), true);
        CHECK.due("rows of none", x.rows(5), 0);
        CHECK.due("not told any more", x.see(1, -1), true);
        CHECK.due("rows seen", x.rows(2), 4);
        x.thank(0, 0, 0);
        x.set(1, 1);
        CHECK.due("thanks ahead don't matter", x.rows(2), 4);
        LastThanked big = Check.house("r2;s;s;s;s;s;m;m;m");
        CHECK.due("the most rows", big.rows(12), 129746337890625L);
    }

    private static void fewest() {
        Object[][] rows = {{"r2;s;s;m", 1}, {"r2;so0;m", -1}, {"r2;so0;m;m", 2}, {"r2;so0;so1;m;m", 3},
            {"r2;so0;so1;m;m;m", 4}, {"r2;so0;so1;so2;m;m;m", 3}, {"r2;so2;m;m;m", 1}};
        for (Object[] row : rows) {
            CHECK.due("fewest of " + row[0], Check.house((String) row[0]).fewest(), (Integer) row[1]);
        }
    }

    private static void days() {
        LastThanked x = Check.house("r2;s;s;s;m;m;m");
        CHECK.due("day(0)", x.day(0, 1), -1);
        CHECK.due("day(41)", x.day(41, 1), -1);
        CHECK.due("day(-1)", x.day(-1, 1), -1);
        CHECK.due("none", x.count(6), 0);
        CHECK.due("day(39)", x.day(39, Long.MIN_VALUE), 39);
        CHECK.due("day(2)", x.day(2, 1), -1);
        CHECK.due("day(1)", x.day(1, 1), 40);
        CHECK.due("latest at 39", x.thank(0, 0, 38), -1);
        x.undo();
        CHECK.due("latest at 38", x.thank(0, 0, 38), 40);
        LastThanked late = Check.house("r2;s;m");
        late.thank(0, 0, 990);
        CHECK.due("above 999", late.day(10, 1), -1);
        CHECK.due("to 999", late.day(9, 1), 10);
        CHECK.due("none behind", late.day(1, 1), -1);
        Random random = new Random(19);
        for (int i = 0; i < 100; i++) {
            drawnDay(random);
        }
    }

    private static void drawnDay(Random random) {
        SlowHouse house = SlowHouse.random(random, 5, 6);
        LastThanked x = Check.house(house.text(random));
        int minute = -1;
        for (int day = 0; day < 2; day++) {
            long seed = random.nextLong();
            int n = 1 + random.nextInt(20);
            CHECK.due("day", x.day(n, seed), house.thanks.size() + n);
            long at = seed;
            for (int i = 0; i < n; i++) {
                at = at * 6364136223846793005L + 1442695040888963407L;
                int who = (int) ((at >>> 33) % house.masters.length);
                at = at * 6364136223846793005L + 1442695040888963407L;
                int whom = (int) ((at >>> 33) % house.servants.length);
                minute++;
                house.thanks.add(new int[] {who, whom, minute});
                int lean = house.leans(house.thanks, minute)[whom];
                CHECK.due("leans on day", x.leans(whom, minute), lean);
                CHECK.due("counted on day", x.counted(minute), house.may(who, whom) ? 1 : 0);
            }
        }
    }

    private static void images() {
        LastThanked x = Check.house("r2;s;s;m;m");
        CHECK.due("no image", x.back(), -1);
        CHECK.due("image of none", x.image(), 0);
        x.thank(0, 0, 1);
        x.thank(1, 1, 2);
        CHECK.due("back to none", x.back(), 0);
        CHECK.due("none", x.count(6), 0);
        x.thank(0, 0, 1);
        x.thank(1, 1, 2);
        x.see(0, 1);
        CHECK.due("image", x.image(), 2);
        x.undo();
        x.undo();
        x.thank(1, 0, 9);
        x.see(0, 9);
        x.see(1, 0);
        x.set(1, 7);
        CHECK.due("before", x.leans(0, 9), 1);
        CHECK.due("back", x.back(), 2);
        CHECK.due("thanks are again", x.leans(0, 2), 0);
        CHECK.due("thanks are again", x.leans(1, 2), 1);
        CHECK.due("seen is again", x.rows(1), 1);
        CHECK.due("last is not kept", x.count(8), 7);
        CHECK.due("earlier than the latest", x.thank(0, 0, 1), -1);
        x.undo();
        CHECK.due("back again", x.back(), 2);
        Check.tell(x, 1, "y:m=1?1");
        x.set(0, 0);
        CHECK.due("judged by the law that holds now", x.counted(0), 0);
        x.set(0, -1);
        CHECK.due("back under another law", x.back(), 2);
        CHECK.due("judged anew", x.counted(0), 1);
        Check.tell(x, 0, "r2;s;s;m;m");
        CHECK.due("of another house", x.back(), -1);
        CHECK.due("none", x.count(6), 0);
    }

    private static void judgedAnew() {
        LastThanked x = Check.house("r2;so0;s;m;m");
        x.thank(1, 0, 1);
        x.thank(0, 1, 2);
        x.image();
        x.undo();
        x.undo();
        x.thank(0, 0, 1);
        x.thank(0, 0, 2);
        CHECK.due("barred", x.counted(0) + x.counted(1), 0);
        x.back();
        CHECK.due("counts again", x.counted(0), 1);
        CHECK.due("counts again", x.counted(1), 1);
        Check.tell(x, 0, "r2;so1;s;m;m");
        x.thank(1, 0, 1);
        CHECK.due("barred in another house", x.counted(0), 0);
        x.undo();
        x.thank(0, 0, 1);
        CHECK.due("judged after undo", x.counted(0), 1);
    }

    private static void randomRows(Random random) {
        SlowHouse house = SlowHouse.random(random, 5, 2);
        LastThanked x = Check.house(house.text(random));
        int[] seen = new int[house.servants.length];
        for (int s = 0; s < seen.length; s++) {
            int sort = random.nextInt(4);
            seen[s] = sort == 0 ? 9 : sort == 1 ? -1 : random.nextInt(house.masters.length);
            CHECK.due("see", x.see(s, seen[s]), true);
        }
        int[] nobody = new int[seen.length];
        Arrays.fill(nobody, -1);
        for (int n = 0; n <= (seen.length * house.masters.length > 8 ? 3 : 5); n++) {
            CHECK.due("rows of " + n, x.rows(n), house.rows(seen, n, nobody));
        }
    }
}
