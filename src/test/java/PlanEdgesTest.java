/** Sentences of the document that tell a bound or a refusal: plans, stolen servants, rivals (promises 21 to 25). */
public final class PlanEdgesTest {
    private static final Script S = new Script("PlanEdgesTest");
    private static final String[] FULL = TextEdgesTest.FULL;

    public static void main(String[] args) {
        size();
        acts();
        tasks();
        once();
        fewest();
        planRefused();
        bars();
        stolen();
        ruin();
        turns();
        bestTurn();
        rivalsRefused();
        S.end();
    }

    private static void plan(String house, int minutes, int then, int least) {
        S.run("house " + house, "plan(0, 0) = " + minutes + "; plan(0, 1) = " + then + "; plan(0, 2) = " + least);
    }

    private static void planOnce(String house, int minutes, int then, int least) {
        S.run("house " + house, "set(2, 1) = 1",
                "plan(0, 0) = " + minutes + "; plan(0, 1) = " + then + "; plan(0, 2) = " + least);
    }

    private static void size() {
        S.says("plan", "PLAN of a MASTER (at most 3 SERVANTS, 5 ROOMS)");
        plan("r2;s;m;t", 6, 1, 1);
        plan("r5;s;s;s;m;tr4h3", 3 + 3 * 4 + 5, 3, 3);
        plan("r5;sa4;sa4;sa4;m;m;m;t;t;t;t", 4 + 1 + 4 + 4 * 5, 1, 1);
        plan("r5;sa4;sa4;sa4;ma4;tr4h3n1;tr4h3n1;tr4h3n1;tr4h3n1", 3 + 4, 3, 3);
        planOnce("r5;sa4;sa4;sa4;ma4;tr4h3n30;tr4h3n30;tr4h3n30;tr4h3n30", 4 * 33, 12, 12);
        S.says("plan", "HIDDEN: too many SERVANTS, ROOMS, no HOUSE.");
        for (String house : new String[] {"house r2;s;s;s;s;m;t", "house r5;s;s;s;s;s;m;t", "house r6;s;m;t", "house r6;s;s;s;m"}) {
            S.refused(new String[] {house}, "plan(0, 0) = HIDDEN; plan(0, 1) = HIDDEN; plan(0, 2) = HIDDEN");
        }
        S.refused(TextEdgesTest.NEW, "plan(0, 0) = HIDDEN; plan(0, 1) = HIDDEN; plan(0, 2) = HIDDEN");
    }

    private static void acts() {
        S.says("plan", "all others away, nobody thanked yet, LAW and LAST not asked, all in their ROOMS");
        S.run("law y:0", "house r3;sa2;s;so0;m;m", "set(0, 0) = 1; set(1, 1) = 1; plan(0, 0) = 0; plan(0, 1) = 0");
        S.run("law y:0", "house r3;sa2;sa1;m;m;tn1", "set(0, 0) = 1; set(1, 1) = 1; thank(0, 0, 0) = 1; thank(1, 1, 5) = 2",
                "plan(0, 0) = 4; plan(0, 1) = 1; plan(1, 0) = 4; plan(1, 2) = 1; set(0, NONE) = 1; set(1, 0) = 1; plan(0, 0) = 4");
        S.says("plan", "it goes to a SERVANT that it may thank and thanks it (the ROOMS between them in minutes, and 1)");
        plan("r5;s;m;tn1", 2, 1, 1);
        plan("r5;sa1;m;tr1n1", 3, 1, 1);
        plan("r5;sa4;m;tr4n1", 6, 1, 1);
        plan("r5;s;ma4;tr0n1", 6, 1, 1);
        plan("r5;so0;sa4;m;m;tr4n1", 6, 1, 1);
        S.says("plan", "0 the lowest, each a minute from the next");
        plan("r5;sa1;m;tr2n1", 2 + 1 + 1, 1, 1);
        plan("r5;sa3;ma1;tr2n1", 3 + 1 + 1, 1, 1);
        plan("r5;sa3;ma4;tr3n1", 2 + 1, 1, 1);
        S.says("plan", "a SERVANT that it has thanked goes to another ROOM (the ROOMS between in minutes)");
        plan("r5;s;m;tr1n1", 3, 1, 1);
        plan("r5;s;m;tr4n1", 6, 1, 1);
        plan("r5;sa4;ma4;tr0n1", 6, 1, 1);
        plan("r5;s;s;m;tr4h2n1", 2 + 8 + 1, 2, 2);
    }

    private static void tasks() {
        S.says("plan", "a TASK is DONE, once, in its ROOM, by HANDS SERVANTS that are there and that it has thanked (its MINUTES");
        plan("r2;s;m;tn30", 31, 1, 1);
        plan("r2;s;m;tn1;tn1;tn1;tn1", 5, 1, 1);
        plan("r2;s;s;m;th2n1", 3, 2, 2);
        plan("r2;s;s;s;m;th3n1", 4, 3, 3);
        plan("r2;s;s;m;tn1", 2, 1, 1);
        S.says("plan", "the TASK it comes after being DONE)");
        plan("r3;s;m;tr2n1;tn1", 1 + 1 + 2 + 1, 1, 1);
        plan("r3;s;m;tr2n1;tn1p0", 1 + 2 + 1 + 2 + 1, 1, 1);
        plan("r3;s;m;tr2n1;tn1p0;tr2n1p1;tn1p2", 1 + 4 * 2 + 4, 1, 1);
        S.says("plan", "All TASKS DONE: in the fewest minutes");
        S.run("house r5;sa4;s;m;tn1;tr4n1", "plan(0, 0) = 7; plan(0, 2) = 1; plan(0, 0) = 7; stolen(0, 1) = 11; plan(0, 1) = 1",
                "house r2;s;m;tn1", "plan(0, 0) = 2; plan(0, 1) = 1; stolen(0, 0) = NONE; plan(0, 0) = 2");
        S.says("plan", "All TASKS DONE");
        plan("r2;s;m", 0, 0, 0);
        plan("r5;so0;m", 0, 0, 0);
    }

    private static void once() {
        S.says("plan", "with ONCE (0, 1; 0 at first)");
        S.run("house r2;s;m;tn1;tn1", "count(9) = 0; plan(0, 0) = 3; plan(0, 1) = 1; set(2, 1) = 1; plan(0, 0) = 4; plan(0, 1) = 2",
                "plan(0, 2) = 2; set(2, 0) = 1; plan(0, 0) = 3; plan(0, 2) = 1");
        S.says("plan", "the lowest HANDS of these are as if never thanked then");
        planOnce("r2;s;m;tn1", 2, 1, 1);
        planOnce("r2;s;s;s;m;th3n1;th3n1", 8, 6, 6);
        planOnce("r3;s;s;m;th2n1;tn1", 2 + 1 + 1 + 1, 3, 3);
        // The second of the two in ROOM 0 stays thanked when the first has done its TASK.
        planOnce("r5;s;s;sa4;m;tr4n1;tr4n1p0;tn1p1;tn1p2", 2 + 5 + 1 + 1 + 1 + 1 + 1, 4, 4);
        // It is thanked where its TASK has left it.
        planOnce("r5;s;m;tr4n1;tn1p0", 1 + 4 + 1 + 4 + 1 + 4 + 1, 2, 2);
    }

    private static void fewest() {
        S.says("plan", "the fewest THANKS in so many minutes; the fewest THANKS, however long");
        plan("r4;s;sa1;m;tr0n1;tr1n1;tr0n1p1;tr1n1p2", 1 + 2 + 4, 2, 1);
        plan("r5;sa1;sa4;m;tr1;tr4", 2 + 5 + 3 + 5, 1, 1);
        plan("r5;s;sa4;ma2;tr4n1;tn1", 3 + 1 + 4 + 1, 1, 1);
        plan("r5;s;sa1;m;tr1n1;tn1p0", 1 + 2 + 2, 1, 1);
    }

    private static void planRefused() {
        S.says("plan", "NONE: it can't be, no such ones.");
        S.refused(FULL, "plan(0, 0) = 16; plan(0, 1) = 3; plan(0, 2) = 3; plan(1, 0) = 15; plan(1, 1) = 3");
        S.refused(FULL, "plan(2, 0) = NONE; plan(3, 0) = NONE; plan(-1, 0) = NONE; plan(0, 3) = NONE; plan(0, -1) = NONE",
                "plan(MIN, 0) = NONE; plan(MAX, 0) = NONE; plan(0, MIN) = NONE; plan(0, MAX) = NONE");
        plan("r2;so0;m;tn1", -1, -1, -1);
        plan("r2;s;m;th2", -1, -1, -1);
        plan("r2;s;s;so0;m;m;th3", -1, -1, -1);
        planOnce("r2;s;s;m;th3", -1, -1, -1);
        S.refused(new String[] {"house r2;s;so0;m;m;th2"}, "plan(0, 0) = NONE; plan(0, 1) = NONE; plan(0, 2) = NONE; plan(1, 0) = 7");
    }

    private static void bars() {
        S.says("bars", "BARS: TASKS (bits) that can never be DONE by it.");
        S.run("house r2;s;s;so1;m;m;th3;tp0;t;tp1", "bars(0) = 0; bars(1) = 11");
        S.run("house r2;so0;m;t;t;t;t", "bars(0) = 15");
        S.run("house r2;so0;so0;so0;m;m;t;th2", "bars(0) = 3; bars(1) = 0");
        S.run("house r2;s;so0;m;m;th2;t;th1;th3", "bars(0) = 9; bars(1) = 8");
        S.run("house r2;s;m", "bars(0) = 0");
        S.run("law y:0", "house r6;s;s;s;s;m;th3;t", "set(0, 0) = 1; set(1, 1) = 1; set(2, 1) = 1; bars(0) = 0");
        S.run("house r6;so0;so0;s;s;so0;m;m;th3;t", "bars(0) = 1; bars(1) = 0");
        S.says("bars", "NONE: no such MASTER.");
        S.refused(FULL, "bars(0) = 0; bars(1) = 0; bars(2) = NONE; bars(3) = NONE; bars(-1) = NONE; bars(MIN) = NONE; bars(MAX) = NONE");
    }

    private static void stolen() {
        S.says("stolen", "STOLEN: PLAN without a SERVANT (it can't be thanked): minutes.");
        S.run("house r5;s;sa1;sa4;m;tn1;tr1n1", "plan(0, 0) = 4; stolen(0, 0) = 5; stolen(0, 1) = 4; stolen(0, 2) = 4");
        S.run("house r5;s;s;m;tn1;tn1", "set(2, 1) = 1; stolen(0, 0) = 4; stolen(0, 1) = 4");
        S.run("house r5;s;m", "stolen(0, 0) = 0");
        S.says("stolen", "NONE: it can't be, no such ones. HIDDEN likewise.");
        S.refused(FULL, "stolen(0, 0) = NONE; stolen(0, 1) = 16; stolen(0, 2) = NONE; stolen(1, 0) = 15");
        S.refused(FULL, "stolen(2, 0) = NONE; stolen(3, 0) = NONE; stolen(-1, 0) = NONE; stolen(0, 3) = NONE; stolen(0, -1) = NONE",
                "stolen(MIN, 0) = NONE; stolen(MAX, 0) = NONE; stolen(0, MIN) = NONE; stolen(0, MAX) = NONE; stolen(1, 3) = NONE");
        S.run("house r2;s;m;t", "stolen(0, 0) = NONE");
        for (String house : new String[] {"house r2;s;s;s;s;m;t", "house r6;s;m;t"}) {
            S.refused(new String[] {house}, "stolen(0, 0) = HIDDEN; ruin(0) = HIDDEN");
        }
        S.refused(TextEdgesTest.NEW, "stolen(0, 0) = HIDDEN; ruin(0) = HIDDEN");
    }

    private static void ruin() {
        S.says("ruin", "RUIN: the SERVANT by which that is most");
        S.run("house r5;sa1;s;m;tn1", "stolen(0, 0) = 2; stolen(0, 1) = 4; ruin(0) = 1");
        S.run("house r5;sa4;s;sa2;m;tn1", "ruin(0) = 1; ruin(1) = NONE");
        S.says("ruin", "(that it can't be is more than all");
        S.run("house r5;so0;sa4;m;m;tn30", "stolen(0, 0) = 39; stolen(0, 1) = NONE; ruin(0) = 1; ruin(1) = 0");
        S.says("ruin", "of several the lowest)");
        S.run("house r5;s;s;s;m;tn1", "ruin(0) = 0");
        S.run("house r5;sa4;s;m;th2", "ruin(0) = 0");
        S.run("house r5;so0;s;s;m;th2", "ruin(0) = 1");
        S.run("house r5;s;s;m", "ruin(0) = 0");
        S.says("ruin", "NONE: PLAN can't be even so, no such one. HIDDEN likewise.");
        S.refused(FULL, "ruin(0) = 0; ruin(1) = 0; ruin(2) = NONE; ruin(3) = NONE; ruin(-1) = NONE; ruin(MIN) = NONE; ruin(MAX) = NONE");
        S.refused(new String[] {"house r2;s;so0;m;m;th2"}, "ruin(0) = NONE; ruin(1) = 0");
        S.run("house r2;s;m;th3", "ruin(0) = NONE");
    }

    private static void rivals(String house, int n, int value, int turn) {
        S.run("house " + house, "rivals(0, 1, " + n + ", 0) = " + value + "; rivals(0, 1, " + n + ", 1) = " + turn);
    }

    private static void turns() {
        S.says("rivals", "RIVALS, two MASTERS, by turns, the first one told first, n (1 .. 8) turns each");
        rivals("r2;s;m;m", 1, -1, 0);
        rivals("r6;sa5o1;m;m", 5, 0, 0);
        rivals("r6;sa5o1;m;m", 6, 1, 1);
        rivals("r6;sa5o1;m;m", 7, 1, 0);
        rivals("r6;sa5o1;m;m", 8, 1, 0);
        rivals("r6;sa5o0;m;m", 5, 0, 0);
        rivals("r6;sa5o0;m;m", 6, -1, 0);
        S.run("house r2;s;m;ma1;m", "rivals(0, 1, 1, 0) = 1; rivals(1, 0, 1, 0) = -1; rivals(2, 0, 1, 0) = -1; rivals(1, 2, 1, 1) = 0");
        rivals("r6;sa5;sa5;sa5;sa5;sa5;ma5;ma5", 8, -1, 0);
        rivals("r6;sa5o1;sa5o1;sa5o1;sa5o1;sa5o1;ma5;ma5", 8, 5, 0);
        S.says("rivals", "nobody thanked yet");
        S.run("house r2;sa1;m;m", "thank(0, 0, 0) = 1; rivals(0, 1, 1, 0) = 0; rivals(0, 1, 1, 1) = 0");
        S.run("house r6;sa5;m;m", "rivals(0, 1, 8, 0) = -1; rivals(0, 1, 1, 0) = 0; rivals(0, 1, 8, 1) = 0; rivals(1, 0, 5, 0) = 0",
                "house r2;s;m;m", "rivals(0, 1, 8, 0) = -1", "house r2;sa1;m;m", "rivals(0, 1, 1, 0) = 0; rivals(0, 1, 1, 1) = 0");
        S.says("rivals", "in a turn one goes a ROOM up, or down");
        rivals("r2;sa1o1;m;m", 1, 0, 0);
        rivals("r2;sa1o1;m;m", 2, 1, 1);
        rivals("r2;so1;ma1;m", 1, 0, 0);
        rivals("r2;so1;ma1;m", 2, 1, 2);
        rivals("r3;sa2o1;m;m", 2, 0, 0);
        rivals("r3;so1;ma2;m", 2, 0, 0);
        rivals("r3;sa2o0;m;m", 2, 0, 0);
        rivals("r3;so0;m;ma2", 2, 0, 0);
        rivals("r3;sa2o0;m;m", 3, -1, 0);
        rivals("r3;so0;m;ma2", 3, -1, 0);
        S.says("rivals", "or thanks a SERVANT of its ROOM that it may, or rests");
        rivals("r2;so1;m;m", 1, 1, 3);
        rivals("r2;so0;m;m", 1, -1, 0);
        rivals("r2;sa1o1;m;m", 1, 0, 0);
        rivals("r2;so0;so1;m;m", 2, 0, 0);
        S.says("rivals", "In the end each has the SERVANTS that it thanked last.");
        rivals("r2;s;m;ma1", 1, 1, 3);
        rivals("r2;s;m;ma1", 2, -1, 0);
        rivals("r6;so0;so1;s;s;s;m;m", 8, -1, 0);
    }

    private static void bestTurn() {
        S.says("rivals", "the first one's best turn: 0 rests, 1 up, 2 down, 3 and the SERVANT");
        rivals("r2;so0;so0;so0;so0;so1;m;m", 1, 0, 7);
        rivals("r2;so0;so1;m;m", 1, 0, 4);
        rivals("r4;sa1;m;ma3", 2, 1, 1);
        rivals("r3;sa2;ma2;m", 1, 1, 3);
        S.says("rivals", "(of several the least)");
        rivals("r2;so1;so1;m;m", 1, 1, 3);
        rivals("r3;so1;sa2o1;ma1;m", 2, 1, 1);
        rivals("r3;sa2o1;ma1;m", 3, 1, 0);
        rivals("r2;so1;sa1o1;m;m", 2, 1, 0);
        rivals("r2;so1;sa1o1;m;m", 3, 2, 3);
        rivals("r2;so1;sa1o1;m;m", 4, 2, 0);
    }

    private static void rivalsRefused() {
        S.says("rivals", "HIDDEN: no such ones, alike, out of bounds.");
        S.refused(FULL, "rivals(0, 1, 1, 0) = -1; rivals(0, 1, 1, 1) = 0; rivals(1, 0, 1, 0) = 1; rivals(1, 0, 1, 1) = 4");
        S.refused(FULL, "rivals(0, 0, 1, 0) = HIDDEN; rivals(1, 1, 1, 0) = HIDDEN; rivals(0, 0, 1, 1) = HIDDEN");
        S.refused(FULL, "rivals(2, 0, 1, 0) = HIDDEN; rivals(0, 2, 1, 0) = HIDDEN; rivals(-1, 0, 1, 0) = HIDDEN",
                "rivals(0, -1, 1, 0) = HIDDEN; rivals(0, 1, 0, 0) = HIDDEN; rivals(0, 1, 9, 0) = HIDDEN",
                "rivals(0, 1, -1, 0) = HIDDEN; rivals(0, 1, 1, 2) = HIDDEN; rivals(0, 1, 1, -1) = HIDDEN",
                "rivals(MIN, 1, 1, 0) = HIDDEN; rivals(0, MAX, 1, 0) = HIDDEN; rivals(0, 1, MIN, 0) = HIDDEN",
                "rivals(0, 1, MAX, 0) = HIDDEN; rivals(0, 1, 1, MIN) = HIDDEN; rivals(0, 1, 1, MAX) = HIDDEN");
        S.refused(new String[] {"house r2;s;m"}, "rivals(0, 1, 1, 0) = HIDDEN; rivals(1, 0, 1, 0) = HIDDEN; rivals(0, 0, 1, 1) = HIDDEN");
    }
}
