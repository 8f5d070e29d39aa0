/** Sentences of the document that tell a bound or a refusal: what was seen, rows, days, images (26 to 29, 36, 37). */
public final class RowsEdgesTest {
    private static final Script S = new Script("RowsEdgesTest");
    private static final String[] FULL = TextEdgesTest.FULL;
    private static final String TWO = "house r2;so0;s;m;m";

    public static void main(String[] args) {
        seen();
        seeRefused();
        rows();
        rowsOfWhatWasSeen();
        fewest();
        draws();
        dayMinutes();
        dayRefused();
        undo();
        image();
        back();
        S.end();
    }

    private static void seen() {
        S.says("see", "SEEN (of each SERVANT: a MASTER, or 9 nobody, or none told)");
        S.run(TWO, "rows(2) = 9; see(0, 9) = 1; rows(2) = 4; see(0, 1) = 1; rows(2) = 5; see(0, NONE) = 1; rows(2) = 9");
        S.run("house r2;s;s;s;s;s;m;m;m", "rows(1) = 15; see(4, 2) = 1; rows(1) = 1; see(4, 9) = 1; rows(1) = 12; see(4, 0) = 1",
                "rows(1) = 1; see(0, 9) = 1; rows(1) = 1; see(0, 2) = 1; rows(1) = 0; rows(2) = 2");
        S.says("see", "or none told");
        S.run(TWO, "rows(0) = 1; rows(1) = 3; see(0, NONE) = 1; rows(1) = 3");
        S.run(TWO, "see(0, 9) = 1; rows(1) = 2", TWO, "rows(1) = 3");
    }

    private static void seeRefused() {
        S.says("see", "False: no such ones.");
        S.refused(FULL, "see(3, 0) = 0; see(4, 9) = 0; see(5, 9) = 0; see(-1, 0) = 0; see(10, 0) = 0; see(MIN, 0) = 0; see(MAX, 0) = 0");
        S.refused(FULL, "see(1, 2) = 0; see(0, 3) = 0; see(0, 8) = 0; see(0, 10) = 0; see(0, -2) = 0; see(0, MIN) = 0; see(0, MAX) = 0");
        S.refused(FULL, "see(3, NONE) = 0; see(-1, NONE) = 0; see(-1, 9) = 0; see(0, 0) = 1; see(1, 9) = 1; see(2, NONE) = 1");
        S.says("see", "whom a SERVANT obeyed (a MASTER");
        S.run(TWO, "see(0, 0) = 1; rows(0) = 0; rows(1) = 0; rows(12) = 0");
    }

    private static void rows() {
        S.says("rows", "ROWS of n (0 .. 12) THANKS by MASTERS that may (each MASTER, each SERVANT)");
        S.run(TWO, "rows(0) = 1; rows(1) = 3; rows(2) = 9; rows(11) = 177147; rows(12) = 531441");
        S.run("house r2;s;s;s;s;s;m;m;m", "rows(1) = 15; rows(12) = 129746337890625");
        S.run("house r2;so0;m", "rows(0) = 1; rows(1) = 0; rows(12) = 0; see(0, 9) = 1; rows(0) = 1; rows(1) = 0");
        S.says("rows", "nobody thanked ahead of them, .. (LAW, LAST not asked)");
        S.run("law y:0", TWO, "set(0, 0) = 1; set(1, 1) = 1; see(0, 1) = 1; rows(0) = 0; thank(1, 0, 0) = 1; rows(0) = 0; rows(1) = 1",
                "rows(2) = 5; set(0, NONE) = 1; set(1, 0) = 1; rows(0) = 0; rows(2) = 5; see(0, 9) = 1; rows(0) = 1; rows(1) = 2");
        S.says("rows", "NONE: no HOUSE, out of bounds.");
        S.refused(FULL, "rows(0) = 0; rows(1) = 1; rows(-1) = NONE; rows(13) = NONE; rows(MIN) = NONE; rows(MAX) = NONE");
        S.refused(TextEdgesTest.NEW, "rows(0) = NONE; rows(1) = NONE; rows(12) = NONE; rows(13) = NONE");
    }

    private static void rowsOfWhatWasSeen() {
        S.says("rows", "behind which each LEANS .. on whom was SEEN: how many");
        S.run(TWO, "see(0, 1) = 1; rows(0) = 0; rows(1) = 1; rows(2) = 5; see(1, 0) = 1; rows(1) = 0; rows(2) = 2; see(1, 9) = 1",
                "rows(0) = 0; rows(1) = 1; rows(2) = 1; rows(12) = 1");
        S.run(TWO, "see(1, 0) = 1; rows(0) = 0; rows(1) = 1; rows(2) = 4; see(1, 1) = 1; rows(2) = 4");
        S.run(TWO, "see(0, 9) = 1; see(1, 9) = 1; rows(0) = 1; rows(1) = 0; rows(2) = 0; rows(12) = 0");
        S.run("house r2;s;m;m", "see(0, 1) = 1; rows(1) = 1; rows(2) = 2; rows(3) = 4; rows(12) = 2048");
    }

    private static void fewest() {
        S.says("fewest", "FEWEST MASTERS: the least set (bits) of MASTERS of whom each SERVANT may be thanked by one");
        S.run("house r2;s;m", "fewest() = 1");
        S.run("house r2;so0;m;m", "fewest() = 2");
        S.run("house r2;so0;so1;s;m;m;m", "fewest() = 4");
        S.run("house r2;so0;so1;so2;m;m;m", "fewest() = 3");
        S.run("house r2;so0;so1;m;m", "fewest() = 3");
        S.says("fewest", "(by how many, then the least bits)");
        S.run("house r2;s;m;m;m", "fewest() = 1");
        S.run("house r2;so0;s;m;m;m", "fewest() = 2");
        S.run("house r2;so2;m;m;m", "fewest() = 1");
        S.says("fewest", "NONE: none can, no HOUSE.");
        S.refused(new String[] {"house r2;s;so0;m"}, "fewest() = NONE");
        S.refused(TextEdgesTest.NEW, "fewest() = NONE");
        S.refused(FULL, "fewest() = 2");
    }

    /** The thanks of a day, one a minute from minute 0 on. */
    private static void drawn(String house, String seed, int... whoAndWhom) {
        int n = whoAndWhom.length / 2;
        LastThanked x = S.run("house " + house, "day(" + n + ", " + seed + ") = " + n);
        for (int minute = 0; minute < n; minute++) {
            int whom = whoAndWhom[2 * minute + 1];
            S.due("day by " + seed + ", minute " + minute, x.leans(whom, minute), whoAndWhom[2 * minute]);
            S.due("nobody ahead of it", minute == 0 ? -1 : x.changes(whom, minute, minute) >= 0 ? -1 : 0, -1);
        }
        for (int minute = n - 1; minute >= 0; minute--) {
            S.due("undone", x.undo(), minute);
        }
    }

    private static void draws() {
        S.says("day", "a draw of MASTERS, a draw of SERVANTS. x, at first the seed, becomes x times 6364136223846793005 and 1442695040888963407");
        String most = "r2;s;s;s;s;s;m;m;m";
        drawn(most, "0", 2, 4, 1, 1, 2, 1, 2, 0, 0, 4, 1, 2);
        drawn(most, "1", 2, 3, 0, 0, 0, 0, 2, 2, 0, 1, 0, 2);
        drawn(most, "5", 1, 3, 1, 0, 1, 1, 2, 4, 2, 4, 0, 4);
        drawn("r2;s;s;s;m;m", "123456789012345", 1, 1, 0, 2, 0, 2, 1, 2, 1, 0, 1, 0);
        S.says("day", "(64 bits, going round)");
        drawn(most, "9223372036854775807", 0, 4, 0, 1, 2, 3, 2, 3, 2, 3, 1, 1);
        drawn("r2;s;s;s;m;m", "9223372036854775807", 0, 1, 1, 0, 0, 1, 1, 1, 0, 1, 1, 0);
        S.says("day", "(x shifted right by 33, without sign) modulo k");
        drawn(most, "-1", 1, 3, 1, 2, 0, 2, 0, 2, 1, 2, 2, 2);
        drawn(most, "-9223372036854775808", 0, 3, 0, 0, 0, 2, 0, 4, 1, 3, 0, 1);
        drawn("r2;s;s;s;m;m", "-9223372036854775808", 1, 1, 1, 2, 1, 1, 0, 0, 0, 1, 1, 1);
        drawn("r2;s;m", "-7", 0, 0, 0, 0, 0, 0);
        S.says("day", "A DAY by a seed: n (1 .. 40) THANKS more");
        S.run("house r2;s;s;s;s;so2;m;m;m", "day(1, 0) = 1; leans(4, 0) = NONE; counted(0) = 0");
    }

    private static void dayMinutes() {
        S.says("day", "n (1 .. 40) THANKS more, one in each minute behind the latest (from 0 on, if there are none)");
        S.run("house r2;s;m", "day(1, 5) = 1; leans(0, 0) = 0; thank(0, 0, 0) = 2; day(1, 5) = 3; thank(0, 0, 0) = NONE",
                "thank(0, 0, 1) = 4");
        S.run("house r2;s;m;m", "thank(1, 0, 5) = 1; day(2, 2) = 3; leans(0, 5) = 1; thank(0, 0, 6) = NONE; thank(0, 0, 7) = 4");
        S.run("house r2;s;m", "day(40, 5) = 40; thank(0, 0, 999) = NONE; undo() = 39; thank(0, 0, 37) = NONE; thank(0, 0, 38) = 40");
        S.run("house r2;s;s;m", "thank(0, 0, 7) = 1; undo() = 0; day(1, 5) = 1; thank(0, 0, 0) = 2");
        S.run("house r2;s;m", "thank(0, 0, 996) = 1; day(3, 5) = 4; thank(0, 0, 998) = NONE; thank(0, 0, 999) = 5");
    }

    private static void dayRefused() {
        S.says("day", "NONE: no HOUSE, out of bounds");
        S.refused(TextEdgesTest.NEW, "day(1, 5) = NONE; day(0, 5) = NONE; day(40, 5) = NONE; day(41, 5) = NONE");
        S.refused(FULL, "day(0, 5) = NONE; day(-1, 5) = NONE; day(41, 5) = NONE; day(MIN, 5) = NONE; day(MAX, 5) = NONE");
        S.refused(new String[] {"house r2;s;s;m;m"}, "day(0, 5) = NONE; day(-1, 5) = NONE; day(41, 5) = NONE; day(MAX, 5) = NONE");
        S.says("day", "more than 40");
        S.run(FULL);
        S.refused(FULL, "day(36, 5) = NONE; day(40, 5) = NONE");
        S.on(S.run(FULL), "day(35, 5) = 40; day(1, 5) = NONE; count(6) = 40");
        S.refused(new String[] {"house r2;s;s;m;m", "day(40, 5) = 40"}, "day(1, 5) = NONE; day(40, 5) = NONE");
        S.says("day", "a minute above 999");
        String[] late = {"house r2;s;s;m;m", "thank(0, 1, 990) = 1"};
        S.refused(late, "day(10, 5) = NONE; day(11, 5) = NONE; day(39, 5) = NONE");
        S.run(late[0], late[1], "day(9, 5) = 10; day(1, 5) = NONE; count(6) = 10; thank(0, 0, 998) = NONE; thank(0, 0, 999) = 11");
        S.refused(new String[] {"house r2;s;s;m;m", "thank(0, 1, 999) = 1"}, "day(1, 5) = NONE");
    }

    private static void undo() {
        S.says("undo", "The latest THANKS can be UNDONE.");
        S.run("house r2;s;s;s;s;s;m;m;m", "day(3, 0) = 3; leans(1, 2) = 2; undo() = 2; leans(1, 2) = 1; undo() = 1",
                "leans(1, 2) = NONE; leans(4, 2) = 2; undo() = 0; leans(4, 2) = NONE; undo() = NONE; back() = NONE");
    }

    private static void image() {
        S.says("image", "An IMAGE (instead of the one ahead): how many THANKS.");
        LastThanked x = S.run("house r2;s;s;m;m", "image() = 0; thank(0, 0, 1) = 1; image() = 1; thank(1, 0, 2) = 2; back() = 1");
        S.on(x, "leans(0, 2) = 0; undo() = 0; image() = 0; thank(1, 1, 3) = 1; back() = 0; leans(1, 3) = NONE; undo() = NONE");
        S.says("image", "An IMAGE keeps THANKS, SEEN");
        x = S.run("house r2;s;s;m;m", "thank(0, 0, 1) = 1; thank(10, 1, 2) = 2; see(0, 0) = 1; see(1, 9) = 1; image() = 2");
        S.on(x, "undo() = 1; undo() = 0; thank(1, 0, 0) = 1; see(0, NONE) = 1; see(1, 1) = 1; back() = 2; leans(0, 0) = NONE");
        S.on(x, "leans(0, 1) = 0; leans(1, 2) = 10; leans(1, 1) = NONE; rows(1) = 1; rows(2) = 2; thank(0, 0, 1) = NONE");
        S.says("image", "NONE: no HOUSE.");
        S.refused(TextEdgesTest.NEW, "image() = NONE; back() = NONE");
        S.run("image() = NONE", "house r2;s;m", "back() = NONE");
        S.says("image", "An IMAGE keeps THANKS, SEEN");
        S.run("law y:0", "house r2;s;m", "thank(0, 0, 1) = 1; image() = 1; set(0, 0) = 1; set(1, 7) = 1; set(2, 1) = 1; back() = 1",
                "count(7) = 0; count(8) = 7; count(9) = 1; counted(0) = 0; set(0, NONE) = 1; counted(0) = 1");
    }

    private static void back() {
        S.says("back", "BACK: they are so again.");
        LastThanked x = S.run("house r2;s;s;m;m", "thank(0, 0, 1) = 1; image() = 1; thank(1, 0, 2) = 2; back() = 1; back() = 1");
        S.on(x, "undo() = 0; back() = 1; leans(0, 1) = 0; day(39, 5) = 40; back() = 1; count(6) = 1; thank(1, 1, 1) = 2; back() = 1");
        S.says("back", "NONE: no IMAGE of this HOUSE.");
        S.refused(new String[] {"house r2;s;s;m;m", "thank(0, 0, 1) = 1; see(0, 0) = 1"}, "back() = NONE");
        S.refused(new String[] {FULL[2], "thank(0, 0, 1) = 1; image() = 1", FULL[2], "thank(1, 0, 1) = 1"}, "back() = NONE");
        S.run(FULL[2], "thank(0, 0, 1) = 1; image() = 1; undo() = 0", "tape r2;s", "text(0) = NONE; back() = 1; leans(0, 1) = 0");
        S.run(FULL[2], "thank(0, 0, 1) = 1; image() = 1; undo() = 0", "law y:1", "back() = 1");
    }
}
