import java.util.Random;

/** Promises 21 to 24: plans, what bars them, stolen servants. */
public final class PlanTest {
    private static final Check CHECK = new Check("PlanTest");
    private static final int HIDDEN = LastThanked.HIDDEN;

    public static void main(String[] args) {
        plans();
        once();
        refusals();
        stolen();
        Random random = new Random(11);
        for (int i = 0; i < 1200; i++) {
            randomHouse(random, i % 40 == 0 ? 5 : 3 + random.nextInt(2));
        }
        CHECK.end();
    }

    private static void plan(String text, int once, int minutes, int then, int all) {
        LastThanked x = Check.house(text);
        x.set(2, once);
        CHECK.due("minutes of " + text, x.plan(0, 0), minutes);
        CHECK.due("thanks then of " + text, x.plan(0, 1), then);
        CHECK.due("thanks at all of " + text, x.plan(0, 2), all);
    }

    private static void plans() {
        plan("r3;s;m", 0, 0, 0, 0);
        plan("r3;s;m;t", 0, 6, 1, 1);
        plan("r3;sa2;m;tr1", 0, 9, 1, 1);
        plan("r5;sa1;sa4;m;tr1;tr4", 0, 10 + 1 + 1 + 3, 1, 1);
        plan("r5;s;sa4;ma4;tr0n1;tr4n1", 0, 1 + 1 + 4 + 1, 1, 1);
        plan("r5;sa0;sa4;ma2;tr0h1;tr4h2n1", 0, 5 + 1 + 2 + 1 + 4 + 1 + 4, 2, 2);
        plan("r3;so0;m;m;t", 0, -1, -1, -1);
        plan("r3;s;m;th2", 0, -1, -1, -1);
        plan("r3;s;m;tr2n1;tp0n1", 0, 1 + 2 + 1 + 2 + 1, 1, 1);
        plan("r4;s;sa3;m;tr3n1;tn1", 0, 1 + 1 + 3 + 1, 1, 1);
        plan("r4;s;sa1;m;tr0n1;tr1n1;tr0n1p1;tr1n1p2", 0, 4 + 1 + 2, 2, 1);
    }

    private static void once() {
        plan("r3;s;m;t;t", 1, 12, 2, 2);
        plan("r3;s;s;m;t;t", 1, 12, 2, 2);
        plan("r3;s;s;m;th2n1;tn1", 1, 2 + 1 + 1 + 1, 3, 3);
        // Hands are as if never thanked behind each task.
        plan("r3;s;s;m;tn1;tr2n1", 1, 2 + 2 + 2, 2, 2);
        plan("r2;sa0;sa1;m;tr0n1;tr1n1p0", 1, 1 + 1 + 1 + 1 + 1, 2, 2);
    }

    private static void refusals() {
        LastThanked many = Check.house("r3;s;s;s;s;m;t");
        LastThanked high = Check.house("r6;s;m;t");
        for (LastThanked x : new LastThanked[] {many, high, new LastThanked()}) {
            CHECK.due("plan", x.plan(0, 0), HIDDEN);
            CHECK.due("plan no such", x.plan(7, 7), HIDDEN);
            CHECK.due("stolen", x.stolen(0, 0), HIDDEN);
            CHECK.due("ruin", x.ruin(0), HIDDEN);
        }
        CHECK.due("bars of many", many.bars(0), 0);
        CHECK.due("bars of high", high.bars(0), 0);
        LastThanked x = Check.house("r5;s;s;so1;m;m;th3;tp0;t;tp1");
        CHECK.due("plan(2, 0)", x.plan(2, 0), -1);
        CHECK.due("plan(-1, 0)", x.plan(-1, 0), -1);
        CHECK.due("plan(0, 3)", x.plan(0, 3), -1);
        CHECK.due("plan(0, -1)", x.plan(0, -1), -1);
        CHECK.due("plan by one who can", x.plan(0, 0), 23);
        CHECK.due("bars none", x.bars(0), 0);
        CHECK.due("bars the rest, too", x.bars(1), 11);
        CHECK.due("bars(2)", x.bars(2), -1);
        CHECK.due("bars(-1)", x.bars(-1), -1);
        CHECK.due("stolen(0, 3)", x.stolen(0, 3), -1);
        CHECK.due("stolen(0, -1)", x.stolen(0, -1), -1);
        CHECK.due("stolen(2, 0)", x.stolen(2, 0), -1);
        CHECK.due("stolen hand", x.stolen(0, 1), -1);
        CHECK.due("ruin(2)", x.ruin(2), -1);
        CHECK.due("ruin, can't be even so", x.ruin(1), -1);
        CHECK.due("ruin, the lowest", x.ruin(0), 0);
    }

    private static void stolen() {
        LastThanked x = Check.house("r5;s;sa1;sa4;m;tn1;tr1n1");
        CHECK.due("plan", x.plan(0, 0), 4);
        CHECK.due("without 0", x.stolen(0, 0), 2 + 1 + 1 + 1);
        CHECK.due("without 1", x.stolen(0, 1), 4);
        CHECK.due("ruin", x.ruin(0), 0);
        LastThanked y = Check.house("r5;s;sa1;m;tr1h2");
        CHECK.due("ruin that can't be", y.ruin(0), 0);
        LastThanked z = Check.house("r3;s;s;m");
        CHECK.due("ruin of nothing", z.ruin(0), 0);
    }

    private static void randomHouse(Random random, int mostRooms) {
        SlowHouse house = SlowHouse.random(random, 3, mostRooms);
        house.once = random.nextInt(2) == 0;
        String text = house.text(random);
        LastThanked x = Check.house(text);
        x.set(2, house.once ? 1 : 0);
        x.set(1, 1);
        int m = random.nextInt(house.masters.length);
        x.thank(m, 0, 3);
        String told = text + " once " + house.once + " by " + m;
        int cost = house.plan(m, -1, 1000);
        CHECK.due("minutes of " + told, x.plan(m, 0), cost == -1 ? -1 : cost / 1000);
        CHECK.due("thanks then of " + told, x.plan(m, 1), cost == -1 ? -1 : cost % 1000);
        CHECK.due("thanks at all of " + told, x.plan(m, 2), house.plan(m, -1, 0));
        CHECK.due("bars of " + told, x.bars(m), house.bars(m));
        if (random.nextInt(3) == 0) {
            int gone = random.nextInt(house.servants.length);
            int without = house.plan(m, gone, 1000);
            CHECK.due("stolen of " + told, x.stolen(m, gone), without == -1 ? -1 : without / 1000);
            CHECK.due("ruin of " + told, x.ruin(m), house.ruin(m));
        }
    }
}
