import java.util.Random;

/** Promises 1 to 9 and 38: the tape, faults, houses, laws, what is set. */
public final class TextTest {
    private static final Check CHECK = new Check("TextTest");

    public static void main(String[] args) {
        newObject();
        tape();
        houseFaults();
        lawFaults();
        randomFaults();
        houses();
        randomHouses();
        lawsAndSettings();
        CHECK.end();
    }

    private static void newObject() {
        LastThanked x = new LastThanked();
        int[] counts = {0, 0, 0, 0, 0, 0, 0, -1, 0, 0};
        for (int what = 0; what < counts.length; what++) {
            CHECK.due("new count " + what, x.count(what), counts[what]);
        }
        CHECK.due("count(-1)", x.count(-1), LastThanked.HIDDEN);
        CHECK.due("count(10)", x.count(10), LastThanked.HIDDEN);
        CHECK.throwsNone("new servant(0, 0)", x, 0, 0);
        CHECK.due("new master", x.master(0), -1);
        CHECK.due("new task", x.task(0, 0), LastThanked.HIDDEN);
        CHECK.due("new holds", x.holds(0, 0), -1);
        CHECK.due("new bars", x.bars(0), -1);
        CHECK.due("new plan", x.plan(0, 0), LastThanked.HIDDEN);
        CHECK.due("new ruin", x.ruin(0), LastThanked.HIDDEN);
        CHECK.due("new stolen", x.stolen(0, 0), LastThanked.HIDDEN);
        CHECK.due("new day", x.day(1, 1), -1);
        CHECK.due("new image", x.image(), -1);
        CHECK.due("new back", x.back(), -1);
        CHECK.due("new fewest", x.fewest(), -1);
        CHECK.due("new rows", x.rows(0), -1);
        CHECK.due("new swing", x.swing(0, 0), -1);
        CHECK.due("new longest", x.longest(0, 0), -1);
        CHECK.due("new see", x.see(0, 9), false);
    }

    private static void tape() {
        LastThanked x = new LastThanked();
        CHECK.due("feed nothing", x.feed(0, 0, 0, 0, 0), 0);
        CHECK.due("feed r3", x.feed(0x00720033, 0, 0, 0, 0), 2);
        CHECK.due("feed ;s;m", x.feed(0x3B000000, 0x0000733B, 0, 0, 0x0000006D), 6);
        CHECK.due("fault none", x.fault(0), -1);
        CHECK.due("end(-1)", x.end(-1), false);
        CHECK.due("end(7)", x.end(7), false);
        CHECK.due("end(6)", x.end(6), true);
        CHECK.due("count 5", x.count(5), 6);
        CHECK.due("end(4)", x.end(4), true);
        CHECK.due("count 5", x.count(5), 4);
        CHECK.due("fault cut", x.fault(0), 4);
        CHECK.due("end(0)", x.end(0), true);
        for (int i = 1; i <= 7; i++) {
            CHECK.due("fill", x.feed(-1, 0x20202020, 0x7F80FF01, -1, -1), 20 * i);
        }
        CHECK.due("fill to 159", x.feed(-1, -1, -1, -1, 0x01010100), 159);
        CHECK.due("past 160", x.feed(0x20200000, 0, 0, 0, 0), -1);
        CHECK.due("still 159", x.count(5), 159);
        CHECK.due("to 160", x.feed(0, 0, 0, 0, 32), 160);
        CHECK.due("nothing more", x.feed(0, 0, 0, 0, 0), 160);
        CHECK.due("161", x.feed(1, 0, 0, 0, 0), -1);
        CHECK.due("end(160)", x.end(160), true);
        CHECK.due("high byte is no sign", x.fault(0), 0);
        CHECK.due("fault(2)", x.fault(2), -2);
        CHECK.due("fault(-1)", x.fault(-1), -2);
        CHECK.due("text(2)", x.text(2), -1);
        CHECK.due("text(-1)", x.text(-1), -1);
        CHECK.due("tape stays", x.count(5), 160);
    }

    private static void fault(int sort, String text, int want) {
        LastThanked x = new LastThanked();
        CHECK.due((sort == 0 ? "house " : "law ") + text, Check.fault(x, sort, text), want);
        CHECK.due("told " + text, x.text(sort) != -1, want == -1);
        CHECK.due("tape behind " + text, x.count(5), want == -1 ? 0 : text.length());
    }

    private static void houseFaults() {
        Object[][] rows = {{"r3;s;m", -1}, {"r2;m;s", -1}, {"r6;s;m", -1}, {"r06;s;m", -1}, {"r1;s;m", 1},
            {"r7;s;m", 1}, {"r0", 1}, {"r01;s;m", 2}, {"r 7 ;s;m", 2}, {"r33", 2}, {"r333", 3}, {"r", 1}, {"r3;s;m;", 7},
            {"r3;s", 4}, {"r3;m", 4}, {"r3;sa2;m", -1}, {"r3;sa3;m", 5}, {"r3;ma3;s", 5}, {"r3;s;m;tr3", 9},
            {"r3;sa100;m", 7}, {"r3;sa10;m", 6}, {"r3;sa02;m", -1}, {"r3;sa0 2;m", 7}, {"r3;so3;m", 5},
            {"r3;so1;m", 8}, {"r3;so0;m", -1}, {"r3;so2;m;m;m", -1}, {"r3;so2;m;m", 10}, {"r3;sw9;m", -1},
            {"r3;sw10;m", 6}, {"r3;sa1a1;m", 6}, {"r3;sh1;m", 4}, {"r3;s;mo0", 6}, {"r3;s;m;th0", 9},
            {"r3;s;m;th3", -1}, {"r3;s;m;th4", 9}, {"r3;s;m;tn0", 9}, {"r3;s;m;tn30", -1}, {"r3;s;m;tn31", 10},
            {"r3;s;m;tp0", 9}, {"r3;s;m;t;tp0", -1}, {"r3;s;m;t;tp1", 11}, {"r3;s;m;t;t;t;tp2", -1},
            {"r3;s;m;t;t;t;t;t", 15}, {"r3;s;s;s;s;s;m", -1}, {"r3;s;s;s;s;s;s", 13}, {"r3;m;m;m;m", 9},
            {"r3,s", 2}, {"r3;x", 3}, {"x", 0}, {"", 0}, {"  ", 2}, {" r 3 ; s a 2 w 1 ; m ", -1}, {"R3;s;m", 0},
            {"r3;s;m x", 7}, {"r3;sa;m", 5}, {"r3;s;m;tr1h1n1p", 15}, {"r3;s;;m", 5}, {"r3;s;m;t;tp0p0", 12},
            {"r3;s\u00e9;m", 4}, {"r3;so0w1a2;ma1;tp9", 17}};
        for (Object[] row : rows) {
            fault(0, (String) row[0], (Integer) row[1]);
        }
    }

    private static void lawFaults() {
        Object[][] rows = {{"y:m", -1}, {"y:0", -1}, {"y:9999", -1}, {"y:12345", 6}, {"y:1 2", 4}, {"", 0}, {"y", 1},
            {"y:", 2}, {"y:x", 2}, {"y:m;", 4}, {"y:m;y:s", -1}, {"y:m;x", 4}, {"y:m=1", 5}, {"y:m=1;", 5},
            {"y:m=1?2", -1}, {"y:m=1?", 6}, {"y:m?1", 3}, {"y:m=1=2?1", 5}, {"y:(m)?1", 4}, {"y:(m=1)?1", -1},
            {"y:(m=1)", 7}, {"y:(m=1))?1", 7}, {"y:((m=1)=1)?1", 8}, {"y:(m=1)+1?1", 7}, {"y:!m=1?1", -1}, {"y:!m", 4},
            {"y:!m;", 4}, {"y:![m]=1?1", -1}, {"y:[m=1]?1", 4}, {"y:[m+1]*2", -1}, {"y:[m", 4}, {"y:m]", 3},
            {"y:m=1?(1)", 6}, {"y:m=1?!1", 6}, {"y:m=(1)?1", 4}, {"y:m=1&s<2|!t>3?n*l/2-1", -1}, {"y:m&s", 3},
            {"y:m=1?1=2", 7}, {"y:m=1?1?2", 7}, {"y:-1", 2}, {"y:m+-1", 4}, {"y:[[[[[[m]]]]]]", -1},
            {"y:[[[[[[[m]]]]]]]", 8}, {"y:!!!!!!m=1?1", -1}, {"y:!!!!!!!m=1?1", 8}, {"y:!!!!!![m]=1?1", 8},
            {"y:!([!", 5}, {"y:!([(", 5}, {"y:(((((([m]", 8}, {"y:((((((m=1))))))&[m]=1?1", -1},
            {"y:!!!!!!m=1&!!!!!!s=1?1", -1}, {"y:!!!!!!m=[1]?1", 10}, {" y : m = 1 ? 2 ; y : 3 ", -1}, {"y:m**2", 4},
            {"y:m m", 4}, {"Y:m", 0}, {"y;m", 1}, {"y:r", 2}, {"y:\u00e9", 2}, {"y:!(l>1)?[t-n*2]/9;y:0", -1}};
        for (Object[] row : rows) {
            fault(1, (String) row[0], (Integer) row[1]);
        }
    }

    static String withBlanks(Random random, String text) {
        StringBuilder spaced = new StringBuilder(text);
        for (int i = spaced.length(); i >= 0 && spaced.length() < 160; i--) {
            boolean within = i > 0 && i < spaced.length()
                    && Character.isDigit(spaced.charAt(i - 1)) && Character.isDigit(spaced.charAt(i));
            if (!within && random.nextInt(6) == 0) {
                spaced.insert(i, ' ');
            }
        }
        return spaced.toString();
    }

    private static String spoilt(Random random, String text, String signs) {
        StringBuilder spoilt = new StringBuilder(text);
        for (int times = random.nextInt(3); times > 0 && spoilt.length() > 0; times--) {
            int at = random.nextInt(spoilt.length());
            char sign = signs.charAt(random.nextInt(signs.length()));
            int how = random.nextInt(4);
            if (how == 0) {
                spoilt.deleteCharAt(at);
            } else if (how == 1 && spoilt.length() < 160) {
                spoilt.insert(at, sign);
            } else if (how == 2) {
                spoilt.setCharAt(at, sign);
            } else {
                spoilt.setLength(at);
            }
        }
        return spoilt.toString();
    }

    private static void randomFaults() {
        Random random = new Random(4);
        for (int i = 0; i < 6000; i++) {
            String house = SlowHouse.random(random, 5, 6).text(random);
            String text = spoilt(random, withBlanks(random, house), "rsmtaowhnp;0123456789 x");
            CHECK.due("house " + text, Check.fault(new LastThanked(), 0, text), FaultOracle.house(text));
            String law = new SlowLaw(random).text();
            if (law.length() <= 160) {
                text = spoilt(random, withBlanks(random, law), "y:;?|&!!((()=<>+-*/[[[]mstnl0123456789 x");
                CHECK.due("law " + text, Check.fault(new LastThanked(), 1, text), FaultOracle.law(text));
            }
        }
    }

    private static void houses() {
        LastThanked x = Check.house("r4;sa3o1w0;s;ma2;m;tr1h2n30;tp0");
        CHECK.due("servants", x.count(1), 2);
        int[][] servants = {{3, 1, 0}, {0, -1, 1}};
        int[][] tasks = {{1, 2, 30, -1}, {0, 1, 5, 0}};
        for (int i = 0; i < 2; i++) {
            for (int what = 0; what < 3; what++) {
                CHECK.due("servant " + i + " " + what, x.servant(i, what), servants[i][what]);
            }
            for (int what = 0; what < 4; what++) {
                CHECK.due("task " + i + " " + what, x.task(i, what), tasks[i][what]);
            }
        }
        CHECK.due("master 0", x.master(0), 2);
        CHECK.due("master 1", x.master(1), 0);
        CHECK.due("master 2", x.master(2), -1);
        CHECK.due("master -1", x.master(-1), -1);
        CHECK.throwsNone("servant(2, 0)", x, 2, 0);
        CHECK.throwsNone("servant(-1, 0)", x, -1, 0);
        CHECK.throwsNone("servant(0, 3)", x, 0, 3);
        CHECK.throwsNone("servant(0, -1)", x, 0, -1);
        CHECK.due("task(2, 0)", x.task(2, 0), LastThanked.HIDDEN);
        CHECK.due("task(-1, 0)", x.task(-1, 0), LastThanked.HIDDEN);
        CHECK.due("task(0, 4)", x.task(0, 4), LastThanked.HIDDEN);
        CHECK.due("task(0, -1)", x.task(0, -1), LastThanked.HIDDEN);
        for (int what = 0; what < 4; what++) {
            CHECK.due("count " + what, x.count(what), new int[] {4, 2, 2, 2}[what]);
        }
        CHECK.due("refused", Check.tell(x, 0, "r4;s"), -1);
        CHECK.due("tape stays", x.count(5), 4);
        CHECK.due("old house stays", x.servant(0, 0), 3);
    }

    private static void randomHouses() {
        Random random = new Random(5);
        LastThanked x = new LastThanked();
        for (int i = 0; i < 500; i++) {
            SlowHouse house = SlowHouse.random(random, 5, 6);
            x = i % 5 == 0 ? new LastThanked() : x;
            String text = withBlanks(random, house.text(random));
            CHECK.due("text " + text, Check.tell(x, 0, text), house.servants.length);
            for (int s = 0; s < house.servants.length; s++) {
                for (int what = 0; what < 3; what++) {
                    CHECK.due("servant of " + text, x.servant(s, what), house.servants[s][what]);
                }
            }
            for (int m = 0; m < house.masters.length; m++) {
                CHECK.due("master of " + text, x.master(m), house.masters[m]);
            }
            for (int t = 0; t < house.tasks.length; t++) {
                for (int what = 0; what < 4; what++) {
                    CHECK.due("task of " + text, x.task(t, what), house.tasks[t][what]);
                }
            }
            CHECK.due("fewest of " + text, x.fewest(), house.fewest());
            CHECK.due("bars of " + text, x.bars(0), house.bars(0));
        }
    }

    private static void lawsAndSettings() {
        LastThanked x = Check.house("r3;s;s;m");
        for (int i = 0; i < 4; i++) {
            CHECK.due("set to a law not told", x.set(0, i), false);
            CHECK.due("law", Check.tell(x, 1, "y:" + i), i);
            CHECK.due("laws", x.count(4), i + 1);
            CHECK.due("none holds", x.count(7), -1);
        }
        CHECK.due("a fifth law", Check.tell(x, 1, "y:1"), -1);
        CHECK.due("tape stays", x.count(5), 3);
        CHECK.due("set law 3", x.set(0, 3), true);
        CHECK.due("set law 4", x.set(0, 4), false);
        CHECK.due("set law -2", x.set(0, -2), false);
        CHECK.due("law 3 holds", x.count(7), 3);
        CHECK.due("set last", x.set(1, 999), true);
        CHECK.due("set last 1000", x.set(1, 1000), false);
        CHECK.due("set last -1", x.set(1, -1), false);
        CHECK.due("last", x.count(8), 999);
        CHECK.due("set once", x.set(2, 1), true);
        CHECK.due("set once 2", x.set(2, 2), false);
        CHECK.due("set once -1", x.set(2, -1), false);
        CHECK.due("once", x.count(9), 1);
        CHECK.due("once off", x.set(2, 0), true);
        CHECK.due("once", x.count(9), 0);
        CHECK.due("last off", x.set(1, 0), true);
        CHECK.due("last", x.count(8), 0);
        x.set(1, 999);
        x.set(2, 1);
        CHECK.due("set 3", x.set(3, 0), false);
        CHECK.due("set -1", x.set(-1, 0), false);
        x.thank(0, 0, 5);
        x.see(0, 0);
        x.image();
        CHECK.due("another house", Check.tell(x, 0, "r2;s;m;m"), 1);
        CHECK.due("laws stay", x.count(4), 4);
        CHECK.due("which holds stays", x.count(7), 3);
        CHECK.due("last stays", x.count(8), 999);
        CHECK.due("once stays", x.count(9), 1);
        CHECK.due("thanks are gone", x.count(6), 0);
        CHECK.due("image is gone", x.back(), -1);
        CHECK.due("seen is gone", x.rows(1), 2);
        CHECK.due("no law", x.set(0, -1), true);
        CHECK.due("no law holds", x.count(7), -1);
    }
}
