import java.util.Random;

/** Promise 25: two rivals by turns. */
public final class RivalsTest {
    private static final Check CHECK = new Check("RivalsTest");

    public static void main(String[] args) {
        games();
        refusals();
        Random random = new Random(13);
        LastThanked x = new LastThanked();
        for (int i = 0; i < 400; i++) {
            SlowHouse house = SlowHouse.random(random, 5, 6);
            int one = random.nextInt(house.masters.length);
            int other = random.nextInt(house.masters.length);
            int n = 1 + random.nextInt(i % 40 == 0 ? 8 : 4);
            String text = house.text(random);
            x = i % 20 == 0 ? new LastThanked() : x;
            Check.tell(x, 0, text);
            int[] due = one == other ? new int[] {-1000000, -1000000} : house.rivals(one, other, n);
            String told = text + " " + one + " " + other + " " + n;
            CHECK.due("value " + told, x.rivals(one, other, n, 0), due[0]);
            CHECK.due("turn " + told, x.rivals(one, other, n, 1), due[1]);
        }
        CHECK.end();
    }

    private static void rivals(String text, int n, int value, int turn) {
        LastThanked x = Check.house(text);
        CHECK.due("value " + text, x.rivals(0, 1, n, 0), value);
        CHECK.due("turn " + text, x.rivals(0, 1, n, 1), turn);
    }

    private static void games() {
        rivals("r2;s;m;m", 1, -1, 0);
        rivals("r2;s;m;ma1", 1, 1, 3);
        rivals("r2;s;m;ma1", 2, -1, 0);
        rivals("r2;so1;m;m", 1, 1, 3);
        rivals("r2;so0;s;m;m", 1, -1, 0);
        rivals("r2;so1;s;m;m", 1, 0, 3);
        rivals("r2;so0;so1;m;m", 1, 0, 4);
        rivals("r3;sa1;m;ma2", 2, -1, 0);
        rivals("r4;sa1;m;ma3", 2, 1, 1);
        rivals("r3;sa1;ma2;ma2", 2, -1, 0);
        rivals("r3;sa1;ma2;ma2", 1, 0, 0);
        rivals("r3;sa2o1;ma1;m", 2, 1, 1);
        rivals("r3;so1;ma1;ma2", 2, 1, 2);
        rivals("r6;sa5;m;m", 2, 0, 0);
        rivals("r6;so0;so1;s;s;s;m;m", 8, -1, 0);
    }

    private static void refusals() {
        LastThanked x = Check.house("r2;s;m;m");
        int[][] wrong = {{0, 0, 1, 0}, {2, 0, 1, 0}, {0, 2, 1, 0}, {-1, 0, 1, 0}, {0, -1, 1, 0}, {0, 1, 0, 0},
            {0, 1, 9, 0}, {0, 1, 1, 2}, {0, 1, 1, -1}};
        for (int[] row : wrong) {
            CHECK.due("refused", x.rivals(row[0], row[1], row[2], row[3]), LastThanked.HIDDEN);
        }
        CHECK.due("no house", new LastThanked().rivals(0, 1, 1, 0), LastThanked.HIDDEN);
    }
}
