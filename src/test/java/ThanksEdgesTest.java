/** Sentences of the document that tell a bound or a refusal: thanks and who obeys whom (promises 10 to 20, 30 to 35). */
public final class ThanksEdgesTest {
    private static final Script S = new Script("ThanksEdgesTest");
    private static final String[] FULL = TextEdgesTest.FULL;
    private static final String FIVE = "house r2;s;s;s;s;s;m;m;m";

    public static void main(String[] args) {
        minutes();
        forty();
        whoThanks();
        count();
        letters();
        undo();
        leans();
        last();
        head();
        holds();
        leads();
        longest();
        one();
        cut();
        wages();
        path();
        all();
        changes();
        swing();
        swingByLaw();
        apart();
        loyal();
        S.end();
    }

    private static void minutes() {
        S.says("thank", "THANKS .. are told by minutes (0 .. 999");
        S.run("house r2;s;s;m", "thank(0, 0, 0) = 1; leans(0, 0) = 0; thank(0, 1, 999) = 2; leans(1, 999) = 0");
        S.run("house r2;s;s;m", "thank(0, 1, 999) = 1; leans(1, 998) = NONE; leans(1, 999) = 0; thank(10, 1, 999) = 2");
        S.refused(FULL, "thank(0, 0, -1) = NONE; thank(0, 0, 1000) = NONE; thank(0, 0, MIN) = NONE; thank(0, 0, MAX) = NONE");
        S.refused(new String[] {"house r2;s;s;m;m"}, "thank(0, 0, -1) = NONE; thank(0, 0, 1000) = NONE; thank(0, 0, MAX) = NONE");
        S.says("thank", "none less than that of the one ahead");
        S.run("house r2;so0;s;m", "thank(0, 1, 5) = 1; thank(0, 1, 5) = 2; thank(0, 1, 4) = NONE; thank(0, 1, 6) = 3",
                "thank(0, 0, 9) = 4; counted(3) = 0; thank(0, 1, 8) = NONE; thank(0, 1, 9) = 5");
        S.refused(FULL, "thank(0, 0, 6) = NONE; thank(0, 0, 0) = NONE; thank(10, 1, 6) = NONE; thank(0, 2, 1) = NONE");
        S.run(FULL[2], "thank(0, 0, 5) = 1; thank(0, 0, 9) = 2; undo() = 1; thank(0, 0, 4) = NONE; thank(0, 0, 5) = 2");
        S.run(FULL[2], "thank(0, 0, 5) = 1; image() = 1; thank(0, 0, 9) = 2; back() = 1; thank(0, 0, 4) = NONE",
                "thank(0, 0, 6) = 2");
        S.run(FULL[2], "thank(0, 0, 5) = 1", FULL[2], "thank(0, 0, 0) = 1");
    }

    private static void forty() {
        S.says("thank", "THANKS (40 at most) .. there are 40");
        String[] made = new String[42];
        made[0] = "law y:n<38?1";
        made[1] = "house r2;s;s;m;m";
        for (int i = 1; i <= 40; i++) {
            made[i + 1] = "thank(" + (i % 2 == 0 ? 10 : 0) + ", 1, " + i / 4 + ") = " + i;
        }
        S.refused(made, "thank(0, 0, 10) = NONE; thank(0, 1, 11) = NONE; thank(10, 1, 999) = NONE; day(1, 5) = NONE");
        LastThanked x = S.run(made);
        S.on(x, "count(6) = 40; counted(39) = 1; counted(40) = NONE; undo() = 39; count(6) = 39; thank(1, 0, 10) = 40");
        S.on(x, "swing(10, 0) = 38; swing(10, 1) = 1; swing(MAX, 0) = 38; leans(1, MAX) = 0; changes(0, 0, 1000) = 1");
        S.on(x, "wages(1, 0, 1000) = 990; apart(1, 0, 1000, 0) = 10; loyal(1, 0, 1000, 1) = 990");
        S.on(x, "leans(0, 10) = 1; thank(1, 0, 10) = NONE; image() = 40; undo() = 39; undo() = 38; back() = 40",
                "thank(1, 0, 10) = NONE; leans(0, 10) = 1");
    }

    private static void whoThanks() {
        S.says("thank", "a MASTER, or a SERVANT (10 and its number), thanks a SERVANT (not itself)");
        S.run(FIVE, "thank(2, 4, 0) = 1; thank(14, 0, 0) = 2; thank(10, 4, 0) = 3; leans(0, 0) = 14; leans(4, 0) = 10");
        S.refused(FULL, "thank(2, 0, 8) = NONE; thank(3, 0, 8) = NONE; thank(9, 0, 8) = NONE; thank(13, 0, 8) = NONE",
                "thank(14, 0, 8) = NONE; thank(15, 0, 8) = NONE; thank(-1, 0, 8) = NONE; thank(MIN, 0, 8) = NONE",
                "thank(MAX, 0, 8) = NONE; thank(0, 3, 8) = NONE; thank(0, 4, 8) = NONE; thank(0, -1, 8) = NONE",
                "thank(0, 10, 8) = NONE; thank(0, MIN, 8) = NONE; thank(0, MAX, 8) = NONE");
        S.refused(new String[] {FIVE}, "thank(3, 0, 8) = NONE; thank(15, 0, 8) = NONE; thank(0, 5, 8) = NONE");
        S.says("thank", "itself");
        S.refused(FULL, "thank(10, 0, 8) = NONE; thank(11, 1, 8) = NONE; thank(12, 2, 8) = NONE");
        S.run(FULL[2], "thank(10, 1, 8) = 1; thank(11, 0, 8) = 2; thank(0, 0, 8) = 3; thank(1, 1, 8) = 4");
    }

    /** Thanks as "who,whom,minute ..", and which of them count by the law. */
    private static void counts(String house, String law, String thanks, String which) {
        LastThanked x = S.run("house " + house, "law " + law, "set(0, 0) = 1");
        String[] rows = thanks.split(" ");
        for (int i = 0; i < rows.length; i++) {
            S.on(x, "thank(" + rows[i] + ") = " + (i + 1));
        }
        for (int i = 0; i < rows.length; i++) {
            S.due("counted(" + i + ") of " + thanks + " by " + law, x.counted(i), which.charAt(i) - '0');
        }
        S.due("counted(" + rows.length + ") by " + law, x.counted(rows.length), LastThanked.NONE);
        S.due("counted(0) again", x.counted(0), which.charAt(0) - '0');
    }

    private static void count() {
        S.says("counted", "They COUNT, if the MASTER is not the one who may not");
        S.run("house r2;so0;s;so2;m;m;m", "thank(0, 0, 1) = 1; thank(1, 0, 1) = 2; thank(2, 0, 1) = 3; thank(11, 0, 1) = 4",
                "thank(0, 1, 1) = 5; thank(2, 2, 1) = 6; thank(10, 2, 1) = 7; thank(1, 2, 1) = 8",
                "counted(0) = 0; counted(1) = 1; counted(2) = 1; counted(3) = 1; counted(4) = 1; counted(5) = 0",
                "counted(6) = 1; counted(7) = 1; leans(0, 1) = 11; leans(2, 1) = 1");
        counts("r2;so0;s;m;m", "y:1", "0,0,1 1,0,1 11,0,1", "011");
        S.says("counted", "the LAW that holds (none at first: all do)");
        S.run("law y:0", "house r2;s;s;m", "thank(0, 0, 1) = 1; thank(10, 1, 1) = 2; counted(0) = 1; counted(1) = 1");
        S.says("counted", "has a WORTH above 0");
        counts("r2;s;s;m;m", "y:m-10", "0,0,1 1,0,1 10,1,1 11,0,2", "0001");
        S.says("counted", "Whether the i-th THANKS COUNTED (1, 0), by the LAW that holds now.");
        S.run("law y:m=0?1", "law y:t>1?1", "house r2;s;m;m", "thank(0, 0, 1) = 1; thank(1, 0, 1) = 2; thank(1, 0, 2) = 3",
                "set(0, 0) = 1; counted(0) = 1; counted(1) = 0; counted(2) = 0; leans(0, 2) = 0; set(0, 1) = 1; counted(0) = 0",
                "counted(1) = 0; counted(2) = 1; leans(0, 1) = NONE; set(0, NONE) = 1; counted(0) = 1; counted(1) = 1");
        S.says("counted", "counted .. NONE: no such ones.");
        S.refused(FULL, "counted(0) = 1; counted(1) = 1; counted(2) = 0; counted(3) = 0; counted(4) = 1");
        S.refused(FULL, "counted(5) = NONE; counted(-1) = NONE; counted(40) = NONE; counted(MIN) = NONE; counted(MAX) = NONE");
        S.refused(new String[] {FULL[2]}, "counted(0) = NONE; counted(-1) = NONE");
    }

    private static void letters() {
        S.says("LAWS", "letters: m who thanks (10 and more for SERVANTS)");
        counts("r2;s;s;s;s;s;m;m;m", "y:m=14?1", "2,0,1 14,0,1 13,0,1", "010");
        counts("r2;s;s;s;s;s;m;m;m", "y:m=10?1", "0,1,1 10,1,1 1,1,1", "010");
        counts("r2;s;s;s;s;s;m;m;m", "y:m=0?1", "10,1,1 0,1,1 2,1,1", "010");
        S.says("LAWS", "s whom");
        counts("r2;s;s;s;s;s;m", "y:s=4?1", "0,0,1 0,4,1 14,3,1", "010");
        counts("r2;s;s;m", "y:s=0?1", "0,0,1 0,1,1", "10");
        S.says("LAWS", "t the minute");
        counts("r2;s;m", "y:t=0?1", "0,0,0 0,0,1", "10");
        counts("r2;s;m", "y:t=999?1", "0,0,998 0,0,999", "01");
        S.says("LAWS", "n how often the one thanked the other ahead of that (COUNTED or not)");
        counts("r2;s;s;m;m", "y:n=0?1", "0,0,1 1,0,1 0,1,1 10,1,1 0,0,1 1,0,2 10,1,3", "1111000");
        counts("r2;s;s;m;m", "y:n=2?1", "0,0,1 0,0,2 1,0,2 0,1,2 0,0,2 0,0,5", "000010");
        counts("r2;s;s;m;m", "y:n>0?1", "0,0,1 0,0,1", "01");
        S.says("LAWS", "l the minutes since that SERVANT was thanked last, whether it COUNTED or not");
        counts("r2;s;s;m;m", "y:l=2?1", "0,0,1 0,0,3 0,0,4 1,0,6 11,0,8", "01011");
        counts("r2;s;s;m;m", "y:l=2?1", "0,0,1 0,1,2 0,1,3 0,0,3", "0001");
        counts("r2;so0;s;m;m", "y:l=3?1", "0,0,1 1,0,4", "01");
        counts("r2;s;m;m", "y:l=0?1", "0,0,1 1,0,1 0,0,2 0,0,2", "0101");
        counts("r2;s;m", "y:l=999?1", "0,0,0 0,0,999", "01");
        S.says("LAWS", "(1,000: never)");
        counts("r2;s;s;m", "y:l=1000?1", "0,0,5 0,0,6 10,1,6 0,1,999", "1010");
        counts("r2;s;s;m", "y:l>999?1", "0,0,0 0,0,999", "10");
    }

    private static void undo() {
        S.says("undo", "The latest THANKS are UNDONE: how many there are.");
        LastThanked x = S.run("law y:n<1?1", "house r2;s;s;m;m", "thank(0, 0, 1) = 1; thank(1, 0, 1) = 2; thank(10, 1, 5) = 3");
        S.on(x, "undo() = 2; leans(1, 5) = NONE; leans(0, 5) = 1; undo() = 1; leans(0, 5) = 0; undo() = 0; leans(0, 5) = NONE");
        S.says("undo", "NONE: none.");
        S.on(x, "undo() = NONE; count(6) = 0; undo() = NONE; thank(0, 0, 0) = 1; undo() = 0");
        S.refused(new String[] {FULL[2], "see(0, 1) = 1; set(1, 4) = 1", "tape y:1"}, "undo() = NONE");
        S.refused(new String[] {FULL[2], "thank(0, 0, 1) = 1; image() = 1; undo() = 0"}, "undo() = NONE");
        S.says("undo", "acts undone");
        x = S.run("law y:n<1&l>5?1", "house r2;s;m", "set(0, 0) = 1; thank(0, 0, 1) = 1; thank(0, 0, 9) = 2; counted(1) = 0");
        S.on(x, "undo() = 1; undo() = 0; thank(0, 0, 3) = 1; counted(0) = 1; leans(0, 3) = 0");
    }

    private static void leans() {
        S.says("leans", "(these count from their own minute on)");
        S.run("house r2;s;s;m;m", "thank(0, 0, 5) = 1; leans(0, 4) = NONE; leans(0, 5) = 0; leans(0, 6) = 0; leans(0, MAX) = 0",
                "thank(1, 0, 8) = 2; leans(0, 7) = 0; leans(0, 8) = 1; leans(1, 8) = NONE");
        S.says("leans", "on the one whose THANKS COUNTED last");
        S.run("house r2;so1;s;m;m", "thank(0, 0, 5) = 1; thank(1, 0, 6) = 2; thank(11, 0, 7) = 3; thank(1, 0, 8) = 4",
                "leans(0, 6) = 0; leans(0, 7) = 11; leans(0, 8) = 11");
        S.run("house r2;s;m;m;m", "thank(2, 0, 5) = 1; thank(0, 0, 5) = 2; thank(1, 0, 5) = 3; leans(0, 5) = 1; leans(0, 4) = NONE");
        S.says("leans", "On whom a SERVANT LEANS (10 and more: a SERVANT; NONE: nobody).");
        S.run(FIVE, "thank(14, 0, 5) = 1; thank(10, 4, 5) = 2; leans(0, 5) = 14; leans(4, 5) = 10; leans(1, 5) = NONE");
        S.refused(FULL, "leans(0, 5) = 0; leans(1, 5) = 10; leans(2, 5) = NONE; leans(2, 7) = 11");
        S.says("leans", "HIDDEN: no such one, minute below 0.");
        S.refused(FULL, "leans(3, 5) = HIDDEN; leans(5, 5) = HIDDEN; leans(-1, 5) = HIDDEN; leans(10, 5) = HIDDEN",
                "leans(0, -1) = HIDDEN; leans(MIN, 5) = HIDDEN; leans(MAX, 5) = HIDDEN; leans(0, MIN) = HIDDEN");
    }

    private static void last() {
        S.says("leans", "if that is less than LAST minutes ago (LAST 1 .. 999");
        LastThanked x = S.run("house r2;s;s;m", "thank(0, 0, 0) = 1; thank(0, 1, 999) = 2; set(1, 1) = 1");
        S.on(x, "leans(0, 0) = 0; leans(0, 1) = NONE; leans(1, 999) = 0; leans(1, 1000) = NONE; set(1, 2) = 1; leans(0, 1) = 0");
        S.on(x, "leans(0, 2) = NONE; set(1, 999) = 1; leans(0, 998) = 0; leans(0, 999) = NONE; leans(1, 1997) = 0");
        S.on(x, "leans(1, 1998) = NONE; leans(1, MAX) = NONE");
        S.says("leans", "or 0: always; 0 at first");
        S.run("house r2;s;s;m", "thank(0, 0, 0) = 1; leans(0, 999) = 0; leans(0, 1000) = 0; leans(0, MAX) = 0; set(1, 5) = 1",
                "leans(0, 999) = NONE; set(1, 0) = 1; leans(0, 999) = 0; leans(0, MAX) = 0");
        S.says("leans", "else on nobody");
        S.run("house r2;so1;m;m", "set(1, 3) = 1; thank(0, 0, 1) = 1; thank(1, 0, 3) = 2; leans(0, 3) = 0; leans(0, 4) = NONE");
    }

    private static void head() {
        S.says("head", "whom it LEANS on, whom that one LEANS on, and so on, to a MASTER");
        String[] row = {FIVE, "thank(13, 4, 1) = 1; thank(12, 3, 1) = 2; thank(11, 2, 1) = 3; thank(10, 1, 2) = 4",
            "thank(2, 0, 3) = 5"};
        S.run(row[0], row[1], row[2], "head(4, 3) = 2; head(3, 3) = 2; head(0, 3) = 2; head(4, 2) = NONE; head(0, 2) = NONE");
        S.says("head", "nobody, if it comes to one that LEANS on nobody");
        S.run("house r2;s;s;m", "head(0, 0) = NONE; thank(10, 1, 0) = 1; head(1, 0) = NONE; thank(0, 0, 1) = 2; head(1, 1) = 0",
                "head(1, 0) = NONE; set(1, 1) = 1; head(1, 1) = NONE; head(0, 1) = 0; head(0, 2) = NONE");
        S.says("head", "or goes round");
        S.run("house r2;s;s;s;m", "thank(10, 1, 0) = 1; thank(11, 0, 0) = 2; thank(10, 2, 0) = 3; head(0, 0) = NONE",
                "head(1, 0) = NONE; head(2, 0) = NONE; thank(0, 1, 1) = 4; head(0, 1) = 0; head(2, 1) = 0; head(2, 0) = NONE");
        S.run(row[0], row[1], "thank(14, 0, 2) = 5", "head(0, 2) = NONE; head(2, 2) = NONE; head(4, 2) = NONE");
        S.says("head", "HEAD (NONE: nobody). HIDDEN likewise.");
        S.refused(FULL, "head(0, 5) = 0; head(1, 5) = 0; head(2, 5) = NONE; head(0, 0) = NONE; head(0, 7) = NONE");
        S.refused(FULL, "head(3, 5) = HIDDEN; head(5, 5) = HIDDEN; head(-1, 5) = HIDDEN; head(10, 5) = HIDDEN",
                "head(0, -1) = HIDDEN; head(MIN, 5) = HIDDEN; head(MAX, 5) = HIDDEN; head(0, MIN) = HIDDEN");
    }

    private static void holds() {
        S.says("holds", "HOLDS of a MASTER: SERVANTS (bits) whose HEAD it is.");
        S.run(FIVE, "holds(0, 0) = 0; thank(0, 0, 0) = 1; holds(0, 0) = 1; thank(10, 4, 0) = 2; holds(0, 0) = 17; holds(1, 0) = 0",
                "thank(2, 2, 3) = 3; holds(2, 2) = 0; holds(2, 3) = 4; holds(0, 3) = 17; thank(14, 0, 4) = 4; holds(0, 4) = 0");
        S.says("holds", "NONE: no such MASTER, minute below 0.");
        S.refused(FULL, "holds(0, 5) = 3; holds(1, 5) = 0; holds(0, 0) = 0; holds(0, MAX) = 0");
        S.refused(FULL, "holds(2, 5) = NONE; holds(3, 5) = NONE; holds(-1, 5) = NONE; holds(10, 5) = NONE; holds(0, -1) = NONE",
                "holds(MIN, 5) = NONE; holds(MAX, 5) = NONE; holds(0, MIN) = NONE");
    }

    private static void leads() {
        S.says("leads", "LEADS of a SERVANT: others (bits) whose row to their HEAD .. goes by it.");
        S.run("house r2;s;s;s;s;m", "thank(0, 0, 1) = 1; thank(10, 1, 1) = 2; thank(11, 2, 1) = 3; leads(0, 1) = 6",
                "leads(1, 1) = 4; leads(2, 1) = 0; leads(3, 1) = 0; leads(0, 0) = 0");
        S.says("leads", "(or to nobody");
        S.run("house r2;s;s;s;s;m", "thank(10, 1, 1) = 1; thank(11, 2, 1) = 2; leads(0, 1) = 6; leads(1, 1) = 4; leads(2, 1) = 0");
        S.says("leads", "or round)");
        S.run(FIVE, "thank(10, 1, 1) = 1; thank(11, 0, 1) = 2; thank(11, 2, 1) = 3; thank(12, 3, 1) = 4; leads(0, 1) = 14",
                "leads(1, 1) = 13; leads(2, 1) = 8; leads(3, 1) = 0; leads(4, 1) = 0");
        S.run(FIVE, "thank(10, 1, 1) = 1; thank(11, 2, 1) = 2; thank(12, 3, 1) = 3; thank(13, 4, 1) = 4; thank(14, 0, 1) = 5",
                "leads(0, 1) = 30; leads(1, 1) = 29; leads(2, 1) = 27; leads(3, 1) = 23; leads(4, 1) = 15");
        S.says("leads", "NONE: no such SERVANT, minute below 0.");
        S.refused(FULL, "leads(0, 5) = 2; leads(1, 5) = 0; leads(1, 7) = 4; leads(0, 7) = 6; leads(0, 0) = 0");
        S.refused(FULL, "leads(3, 5) = NONE; leads(5, 5) = NONE; leads(-1, 5) = NONE; leads(10, 5) = NONE; leads(0, -1) = NONE",
                "leads(MIN, 5) = NONE; leads(MAX, 5) = NONE; leads(0, MIN) = NONE");
    }

    private static void longest() {
        S.says("longest", "LONGEST: the SERVANT with the longest row to a MASTER (how many SERVANTS with itself");
        S.run("house r2;s;m", "thank(0, 0, 1) = 1; longest(1, 0) = 0; longest(1, 1) = 1; longest(0, 0) = NONE");
        S.run("house r2;s;m", "thank(0, 0, 0) = 1; longest(0, 0) = 0; longest(0, 1) = 1; longest(MAX, 1) = 1");
        S.run(FIVE, "thank(13, 4, 1) = 1; thank(12, 3, 1) = 2; thank(11, 2, 1) = 3; thank(10, 1, 1) = 4; thank(1, 0, 1) = 5",
                "longest(1, 0) = 4; longest(1, 1) = 5");
        S.run("house r2;s;s;s;m", "thank(0, 2, 1) = 1; thank(12, 0, 1) = 2; longest(1, 0) = 0; longest(1, 1) = 2");
        S.says("longest", "of several the lowest)");
        S.run(FIVE, "thank(0, 0, 1) = 1; thank(1, 3, 1) = 2; longest(1, 0) = 0; thank(10, 2, 2) = 3; thank(13, 1, 2) = 4",
                "longest(2, 0) = 1; longest(2, 1) = 2");
        S.says("longest", "NONE: nobody has a MASTER");
        S.run("house r2;s;s;s;m", "longest(0, 0) = NONE; longest(0, 1) = NONE; thank(10, 1, 0) = 1; thank(11, 2, 0) = 2",
                "longest(0, 0) = NONE; longest(0, 1) = NONE; thank(12, 0, 0) = 3; longest(0, 0) = NONE; longest(0, 1) = NONE");
        S.says("longest", "no such what, minute below 0.");
        S.refused(FULL, "longest(5, 0) = 1; longest(5, 1) = 2; longest(7, 0) = NONE; longest(7, 1) = NONE");
        S.refused(FULL, "longest(5, 2) = NONE; longest(5, -1) = NONE; longest(-1, 0) = NONE; longest(-1, 1) = NONE",
                "longest(5, MIN) = NONE; longest(5, MAX) = NONE; longest(MIN, 0) = NONE");
    }

    private static void one() {
        S.says("one", "ONE: the THANKS by a MASTER to one SERVANT .. after which it HOLDS most");
        S.run("house r2;s;s;s;m;m", "thank(11, 0, 5) = 1; thank(1, 2, 5) = 2; one(0, 5, 0) = 1; one(0, 5, 1) = 2",
                "one(1, 5, 0) = 1; one(1, 5, 1) = 3; one(0, 4, 0) = 0; one(0, 4, 1) = 1");
        S.run(FIVE, "thank(13, 4, 1) = 1; thank(12, 3, 1) = 2; thank(11, 2, 1) = 3; thank(10, 1, 1) = 4; one(1, 1, 0) = 0",
                "one(1, 1, 1) = 5; thank(14, 0, 1) = 5; one(1, 1, 0) = 0; one(1, 1, 1) = 5");
        S.says("one", "of several the lowest SERVANT): whom, how many");
        S.run("house r2;s;s;s;m;m", "one(0, 0, 0) = 0; one(0, 0, 1) = 1; thank(0, 0, 0) = 1; one(0, 0, 0) = 1; one(0, 0, 1) = 2",
                "thank(0, 1, 0) = 2; thank(0, 2, 0) = 3; one(0, 0, 0) = 0; one(0, 0, 1) = 3");
        S.says("one", "(that COUNT by o alone, the LAW not asked)");
        S.run("law y:0", "law y:m<1?1", "house r2;so0;s;s;m;m", "set(0, 0) = 1; one(0, 0, 0) = 1; one(0, 0, 1) = 1",
                "one(1, 0, 0) = 0; thank(10, 1, 0) = 1; set(0, 1) = 1; thank(0, 2, 0) = 2; one(1, 0, 0) = 0; one(1, 0, 1) = 1",
                "one(0, 0, 0) = 1; one(0, 0, 1) = 2");
        S.says("one", "NONE: it may thank none");
        S.run("house r2;so0;so0;m;m", "one(0, 0, 0) = NONE; one(0, 0, 1) = NONE; one(1, 0, 0) = 0; one(1, 0, 1) = 1",
                "thank(1, 0, 0) = 1; one(0, 0, 0) = NONE; one(0, 0, 1) = NONE");
        S.refused(new String[] {"house r2;so0;so0;m;m", "thank(1, 0, 0) = 1"}, "one(0, 0, 0) = NONE; one(0, 0, 1) = NONE",
                "cut(0, 1, 0, 0) = NONE; cut(0, 1, 0, 1) = NONE");
        S.says("one", "no such ones, minute below 0.");
        S.refused(FULL, "one(0, 5, 0) = 2; one(0, 5, 1) = 3; one(1, 5, 0) = 0; one(1, 5, 1) = 2");
        S.refused(FULL, "one(2, 5, 0) = NONE; one(3, 5, 0) = NONE; one(-1, 5, 0) = NONE; one(10, 5, 0) = NONE",
                "one(0, -1, 0) = NONE; one(0, -1, 1) = NONE; one(0, 5, 2) = NONE; one(0, 5, -1) = NONE; one(MIN, 5, 0) = NONE",
                "one(MAX, 5, 0) = NONE; one(0, MIN, 0) = NONE; one(0, 5, MIN) = NONE; one(0, 5, MAX) = NONE");
        S.says("one", "if that is less than LAST minutes ago");
        S.run("house r2;s;s;m;m", "set(1, 1) = 1; thank(0, 0, 5) = 1; one(0, 5, 1) = 2; one(0, 6, 0) = 0; one(0, 6, 1) = 1");
    }

    private static void cut() {
        S.says("cut", "CUT: likewise that by which another MASTER then HOLDS fewest");
        S.run("house r2;s;s;s;m;m", "thank(0, 2, 0) = 1; thank(12, 1, 0) = 2; thank(0, 0, 0) = 3; cut(1, 0, 0, 0) = 2",
                "cut(1, 0, 0, 1) = 1; cut(0, 1, 0, 0) = 0; cut(0, 1, 0, 1) = 0");
        S.run("house r2;s;s;s;m;m;m", "thank(2, 1, 4) = 1; cut(0, 2, 3, 0) = 0; cut(0, 2, 3, 1) = 0; cut(0, 2, 4, 0) = 1",
                "cut(0, 2, 4, 1) = 0; cut(0, 1, 4, 0) = 0");
        S.says("cut", "(of several the lowest SERVANT)");
        S.run("house r2;s;s;s;m;m", "cut(1, 0, 0, 0) = 0; cut(1, 0, 0, 1) = 0; thank(0, 1, 0) = 1; thank(0, 2, 0) = 2",
                "cut(1, 0, 0, 0) = 1; cut(1, 0, 0, 1) = 1");
        S.says("cut", "CUT: likewise");
        S.run("law y:m<1?1", "house r2;so1;s;s;m;m", "set(0, 0) = 1; thank(0, 0, 0) = 1; thank(0, 1, 0) = 2; cut(1, 0, 0, 0) = 1",
                "cut(1, 0, 0, 1) = 1");
        S.says("cut", "NONE likewise, alike.");
        S.run("house r2;so0;so0;m;m", "thank(1, 0, 0) = 1; cut(0, 1, 0, 0) = NONE; cut(0, 1, 0, 1) = NONE; cut(1, 0, 0, 0) = 0");
        S.refused(FULL, "cut(0, 0, 5, 0) = NONE; cut(1, 1, 5, 0) = NONE; cut(0, 0, 5, 1) = NONE; cut(1, 1, 5, 1) = NONE");
        S.refused(FULL, "cut(1, 0, 5, 0) = 0; cut(1, 0, 5, 1) = 0; cut(0, 1, 5, 0) = 0; cut(0, 1, 5, 1) = 0");
        S.refused(FULL, "cut(2, 0, 5, 0) = NONE; cut(0, 2, 5, 0) = NONE; cut(-1, 0, 5, 0) = NONE; cut(0, -1, 5, 0) = NONE",
                "cut(1, 0, -1, 0) = NONE; cut(1, 0, 5, 2) = NONE; cut(1, 0, 5, -1) = NONE; cut(MIN, 0, 5, 0) = NONE",
                "cut(0, MAX, 5, 0) = NONE; cut(1, 0, MIN, 0) = NONE; cut(1, 0, 5, MAX) = NONE; cut(1, 0, 5, MIN) = NONE");
    }

    private static void wages() {
        S.says("wages", "WAGES of a MASTER from a minute to one (that one not): for each minute, each SERVANT whose HEAD it is: its WAGE.");
        LastThanked x = S.run("house r2;sw0;sw9;s;m;m", "thank(0, 0, 2) = 1; thank(0, 1, 2) = 2; thank(10, 2, 4) = 3");
        S.on(x, "thank(1, 0, 6) = 4; wages(0, 0, 10) = 74; wages(1, 0, 10) = 4; wages(0, 2, 3) = 9; wages(0, 0, 3) = 9");
        S.on(x, "wages(0, 0, 2) = 0; wages(0, 2, 2) = 0; wages(0, 3, 5) = 19; wages(0, 6, 7) = 9; wages(1, 6, 7) = 1");
        S.on(x, "wages(1, 5, 6) = 0; wages(0, 0, 1000) = 8984; wages(0, 999, 1000) = 9; wages(0, 1000, 1000) = 0");
        S.on(x, "wages(0, 0, 0) = 0; set(1, 3) = 1; wages(0, 0, 1000) = 28; wages(0, 4, 5) = 10; wages(0, 5, 6) = 0");
        S.run("house r2;sw9;sw9;sw9;sw9;sw9;m", "thank(0, 0, 0) = 1; thank(0, 1, 0) = 2; thank(0, 2, 0) = 3; thank(0, 3, 0) = 4",
                "thank(0, 4, 0) = 5; wages(0, 0, 1000) = 45000");
        S.says("wages", "NONE: no such MASTER, out of bounds (0 .. 1,000, to not below from).");
        S.refused(FULL, "wages(0, 0, 1000) = 28; wages(1, 0, 1000) = 0; wages(0, 1, 2) = 4; wages(0, 1, 1) = 0");
        S.refused(FULL, "wages(2, 0, 5) = NONE; wages(-1, 0, 5) = NONE; wages(MIN, 0, 5) = NONE; wages(MAX, 0, 5) = NONE",
                "wages(0, -1, 5) = NONE; wages(0, 0, 1001) = NONE; wages(0, 5, 4) = NONE; wages(0, 1001, 1001) = NONE",
                "wages(0, -2, -1) = NONE; wages(0, 1001, 1000) = NONE; wages(0, MIN, 5) = NONE; wages(0, 0, MAX) = NONE",
                "wages(0, 0, MIN) = NONE; wages(0, -1, -1) = NONE");
    }

    private static void path() {
        S.says("path", "PATH of a SERVANT at a minute: whom it LEANS on, whom that one LEANS on, .., to its HEAD");
        S.run(FIVE, "thank(13, 4, 1) = 1; thank(12, 3, 1) = 2; thank(11, 2, 1) = 3; thank(10, 1, 1) = 4; thank(2, 0, 1) = 5",
                "path(4, 1, NONE) = 5; path(4, 1, 0) = 13; path(4, 1, 1) = 12; path(4, 1, 2) = 11; path(4, 1, 3) = 10",
                "path(4, 1, 4) = 2; path(4, 1, 5) = NONE; path(0, 1, NONE) = 1; path(0, 1, 0) = 2; path(0, 1, 1) = NONE");
        S.says("path", "(none, if it has none) .. NONE: it has no HEAD");
        S.run("house r2;s;s;s;m", "path(0, 0, NONE) = NONE; path(0, 0, 0) = NONE; thank(10, 1, 1) = 1; path(1, 1, NONE) = NONE",
                "path(1, 1, 0) = NONE; thank(11, 0, 2) = 2; thank(11, 2, 2) = 3; path(1, 2, NONE) = NONE; path(1, 2, 0) = NONE",
                "path(2, 2, NONE) = NONE; path(2, 2, 1) = NONE");
        S.says("path", "NONE: .. no such one.");
        S.refused(FULL, "path(1, 5, NONE) = 2; path(1, 5, 0) = 10; path(1, 5, 1) = 0; path(1, 5, 2) = NONE; path(1, 5, MAX) = NONE",
                "path(2, 5, NONE) = NONE; path(2, 5, 0) = NONE; path(1, 7, 0) = NONE");
        S.says("path", "HIDDEN: no such SERVANT, minute below 0, i below NONE.");
        S.refused(FULL, "path(3, 5, 0) = HIDDEN; path(5, 5, 0) = HIDDEN; path(-1, 5, 0) = HIDDEN; path(10, 5, NONE) = HIDDEN",
                "path(0, -1, 0) = HIDDEN; path(0, 5, -2) = HIDDEN; path(0, 5, MIN) = HIDDEN; path(MIN, 5, 0) = HIDDEN",
                "path(MAX, 5, 0) = HIDDEN; path(0, MIN, 0) = HIDDEN; path(2, 5, -2) = HIDDEN");
    }

    private static void all() {
        S.says("all", "ALL: the fewest SERVANTS that a MASTER has to thank at a minute .. so that it HOLDS all");
        S.run(FIVE, "all(0, 0, 0) = 5; all(0, 0, 1) = 31; thank(0, 2, 0) = 1; all(0, 0, 0) = 4; all(0, 0, 1) = 27; all(1, 0, 0) = 5");
        S.run("house r2;s;s;s;m;m", "thank(12, 0, 3) = 1; thank(12, 1, 3) = 2; all(0, 3, 0) = 1; all(0, 3, 1) = 4",
                "all(0, 2, 0) = 3; all(0, 2, 1) = 7; thank(0, 2, 4) = 3; all(0, 4, 0) = 0; all(0, 4, 1) = 0; all(1, 4, 1) = 4");
        S.says("all", "(bits; of several the least)");
        S.run("house r2;s;s;s;m", "thank(11, 2, 0) = 1; thank(12, 1, 0) = 2; all(0, 0, 0) = 2; all(0, 0, 1) = 3");
        S.says("all", "(those that it may; the LAW not asked)");
        S.run("law y:0", "law y:m>9?1", "house r2;so0;s;m;m", "set(0, 0) = 1; all(1, 0, 0) = 2; all(1, 0, 1) = 3; set(0, 1) = 1",
                "thank(11, 0, 0) = 1; all(0, 0, 0) = 1; all(0, 0, 1) = 2; thank(10, 1, 1) = 2; all(0, 1, 1) = 2; all(1, 1, 1) = 1");
        S.says("all", "NONE: it can't be");
        S.run("house r2;so0;s;m;m", "all(0, 0, 0) = NONE; all(0, 0, 1) = NONE; all(1, 0, 0) = 2; thank(1, 0, 0) = 1",
                "all(0, 0, 0) = NONE; all(0, 0, 1) = NONE");
        S.refused(new String[] {"house r2;so0;s;m;m", "thank(10, 1, 0) = 1"}, "all(0, 0, 0) = NONE; all(0, 0, 1) = NONE");
        S.says("all", "no such ones, minute below 0.");
        S.refused(FULL, "all(0, 5, 0) = 1; all(0, 5, 1) = 4; all(1, 5, 0) = 2; all(1, 5, 1) = 5");
        S.refused(FULL, "all(2, 5, 0) = NONE; all(3, 5, 0) = NONE; all(-1, 5, 0) = NONE; all(1, -1, 0) = NONE; all(1, -1, 1) = NONE",
                "all(0, 5, 2) = NONE; all(0, 5, -1) = NONE; all(MIN, 5, 0) = NONE; all(MAX, 5, 0) = NONE; all(0, MIN, 0) = NONE",
                "all(0, 5, MIN) = NONE; all(0, 5, MAX) = NONE");
    }

    private static void changes() {
        S.says("changes", "CHANGES of a SERVANT from a minute to one (that one, too): how often its HEAD is another one");
        LastThanked x = S.run("house r2;s;s;m;m", "thank(0, 0, 5) = 1; thank(10, 1, 5) = 2; thank(0, 0, 6) = 3; thank(0, 1, 7) = 4");
        S.on(x, "thank(1, 0, 8) = 5; thank(0, 0, 8) = 6; thank(1, 0, 9) = 7; changes(0, 0, 20) = 2; changes(1, 0, 20) = 1");
        S.on(x, "changes(0, 0, 4) = 0; changes(0, 0, 5) = 1; changes(0, 5, 5) = 1; changes(0, 6, 8) = 0; changes(0, 9, 9) = 1");
        S.on(x, "changes(0, 6, 9) = 1; changes(0, 10, 1000) = 0; changes(1, 5, 5) = 1; changes(1, 6, 1000) = 0");
        S.says("changes", "(nobody is one, too");
        S.on(x, "set(1, 2) = 1; changes(0, 0, 1000) = 3; changes(0, 11, 11) = 1; changes(0, 10, 10) = 0; changes(0, 12, 1000) = 0");
        x = S.run("house r2;s;s;m;m", "thank(10, 1, 1) = 1; thank(0, 0, 2) = 2; thank(11, 0, 4) = 3; thank(1, 1, 6) = 4");
        S.on(x, "changes(1, 0, 10) = 3; changes(0, 0, 10) = 3; changes(1, 0, 1) = 0; changes(1, 4, 4) = 1; changes(1, 6, 6) = 1");
        S.says("changes", "ahead of minute 0 it is nobody");
        S.run("house r2;s;m", "changes(0, 0, 0) = 0; changes(0, 0, 1000) = 0; thank(0, 0, 0) = 1; changes(0, 0, 0) = 1",
                "changes(0, 0, 1000) = 1; changes(0, 1, 1000) = 0");
        S.run("house r2;s;m", "thank(0, 0, 999) = 1; set(1, 1) = 1; changes(0, 1000, 1000) = 1; changes(0, 999, 999) = 1",
                "changes(0, 0, 1000) = 2; changes(0, 0, 999) = 1");
        S.says("changes", "NONE: no such SERVANT, out of bounds (0 .. 1,000, to not below from).");
        S.refused(FULL, "changes(0, 0, 1000) = 2; changes(1, 0, 1000) = 2; changes(2, 0, 1000) = 0; changes(0, 1000, 1000) = 0");
        S.refused(FULL, "changes(3, 0, 5) = NONE; changes(5, 0, 5) = NONE; changes(-1, 0, 5) = NONE; changes(0, -1, 5) = NONE",
                "changes(0, 0, 1001) = NONE; changes(0, 5, 4) = NONE; changes(0, 1001, 1001) = NONE; changes(0, -1, -1) = NONE",
                "changes(MIN, 0, 5) = NONE; changes(MAX, 0, 5) = NONE; changes(0, MIN, 5) = NONE; changes(0, 0, MAX) = NONE",
                "changes(0, MAX, MAX) = NONE; changes(0, MAX, MIN) = NONE");
    }

    private static void swing() {
        S.says("swing", "SWING: the THANKS without which .. the most SERVANTS have another HEAD at a minute");
        LastThanked x = S.run("house r2;s;s;m;m", "thank(1, 1, 0) = 1; thank(0, 0, 1) = 2; thank(10, 1, 1) = 3; thank(1, 0, 4) = 4");
        S.on(x, "swing(0, 0) = 0; swing(0, 1) = 1; swing(4, 0) = 3; swing(4, 1) = 2");
        S.on(x, "thank(10, 1, 5) = 5; thank(11, 0, 6) = 6; swing(6, 0) = 5; swing(6, 1) = 2; swing(5, 0) = 3");
        S.says("swing", "(of several the first)");
        S.run("house r2;s;s;s;m;m", "thank(0, 1, 1) = 1; thank(0, 0, 1) = 2; thank(1, 2, 3) = 3; swing(1, 0) = 0; swing(1, 1) = 1",
                "swing(3, 0) = 0; swing(3, 1) = 1");
        S.says("swing", "(none, if nobody would)");
        S.run("house r2;so0;s;m", "swing(0, 0) = NONE; swing(0, 1) = NONE; thank(0, 0, 1) = 1; swing(1, 0) = NONE; swing(1, 1) = NONE",
                "thank(0, 1, 3) = 2; swing(2, 0) = NONE; swing(3, 0) = 1; thank(0, 1, 4) = 3; swing(4, 0) = NONE; swing(4, 1) = NONE",
                "swing(3, 0) = 1; swing(3, 1) = 1; swing(MAX, 0) = NONE");
        S.says("swing", "no such what, minute below 0.");
        S.refused(FULL, "swing(5, 0) = 0; swing(5, 1) = 2; swing(0, 0) = NONE; swing(MAX, 1) = NONE");
        S.refused(FULL, "swing(5, 2) = NONE; swing(5, -1) = NONE; swing(-1, 0) = NONE; swing(-1, 1) = NONE; swing(MIN, 0) = NONE",
                "swing(5, MIN) = NONE; swing(5, MAX) = NONE");
    }

    private static void swingByLaw() {
        S.says("swing", "(left out; n, l of others as if they had not been)");
        S.run("law y:n<1?1", "house r2;s;m;m", "set(0, 0) = 1; thank(0, 0, 1) = 1; thank(1, 0, 2) = 2; thank(0, 0, 3) = 3",
                "leans(0, 3) = 1; swing(3, 0) = 0; swing(3, 1) = 1; swing(2, 0) = 1");
        S.run("law y:l>4?1", "house r2;s;m;m", "set(0, 0) = 1; thank(0, 0, 1) = 1; thank(1, 0, 3) = 2; leans(0, 3) = 0",
                "swing(3, 0) = 0; swing(3, 1) = 1");
        S.run("law y:l=1000|l=3?1", "house r2;s;s;m;m", "set(0, 0) = 1; thank(0, 0, 1) = 1; thank(10, 1, 2) = 2",
                "thank(1, 0, 3) = 3; thank(1, 0, 4) = 4; leans(0, 4) = 0; swing(4, 0) = 0; swing(4, 1) = 2",
                "swing(3, 0) = 0; undo() = 3; undo() = 2; undo() = 1; thank(0, 0, 2) = 2; thank(1, 0, 4) = 3; leans(0, 4) = 0",
                "swing(4, 0) = 1; swing(4, 1) = 1");
        S.says("swing", "What is refused answers as told and changes nothing.");
        S.run("law y:n<1?1", "house r2;s;m;m", "set(0, 0) = 1; thank(0, 0, 1) = 1; thank(0, 0, 2) = 2; swing(2, 0) = NONE",
                "counted(0) = 1; counted(1) = 0; leans(0, 2) = 0; count(6) = 2");
        S.says("swing", "if that is less than LAST minutes ago");
        S.run("house r2;s;m", "set(1, 4) = 1; thank(0, 0, 1) = 1; thank(0, 0, 3) = 2; swing(4, 0) = NONE; swing(5, 0) = 1",
                "swing(6, 1) = 1; swing(7, 0) = NONE");
    }

    private static void apart() {
        S.says("apart", "APART: the longest span of minutes from a minute to one (that one not) in which a MASTER HOLDS nobody");
        LastThanked x = S.run("house r2;s;s;m;m;m", "thank(0, 0, 2) = 1; thank(1, 1, 4) = 2; thank(1, 0, 8) = 3; thank(2, 1, 9) = 4");
        S.on(x, "apart(0, 0, 11, 0) = 3; apart(0, 0, 11, 1) = 8; apart(0, 2, 8, 0) = 0; apart(0, 2, 9, 0) = 1; apart(0, 2, 9, 1) = 8");
        S.on(x, "apart(0, 1, 3, 0) = 1; apart(0, 1, 3, 1) = 1; apart(0, 8, 9, 0) = 1; apart(1, 0, 20, 0) = 4; apart(1, 0, 20, 1) = 0");
        S.says("apart", "(one minute behind the other)");
        S.on(x, "apart(2, 0, 9, 0) = 9; apart(2, 0, 9, 1) = 0; apart(2, 3, 9, 0) = 6; apart(2, 3, 9, 1) = 3");
        S.on(x, "apart(0, 0, 1000, 0) = 992; apart(0, 0, 1000, 1) = 8; apart(0, 999, 1000, 0) = 1; apart(0, 999, 1000, 1) = 999");
        S.says("apart", "its first minute (of several the first)");
        S.on(x, "apart(0, 0, 10, 0) = 2; apart(0, 0, 10, 1) = 0; apart(0, 1, 9, 1) = 1; apart(0, 1, 9, 0) = 1");
        S.says("apart", "the first (1; NONE: none)");
        S.on(x, "apart(0, 3, 7, 0) = 0; apart(0, 3, 7, 1) = NONE; apart(0, 0, 0, 0) = 0; apart(0, 0, 0, 1) = NONE");
        S.on(x, "apart(0, 1000, 1000, 0) = 0; apart(0, 1000, 1000, 1) = NONE; apart(0, 5, 5, 1) = NONE");
        S.on(x, "set(1, 1) = 1; apart(0, 0, 1000, 0) = 997; apart(0, 0, 1000, 1) = 3; apart(0, 2, 3, 1) = NONE");
        S.run("house r2;s;m", "apart(0, 0, 1000, 0) = 1000; apart(0, 0, 1000, 1) = 0; apart(0, 7, 9, 1) = 7");
        S.says("apart", "HIDDEN: no such ones, out of bounds.");
        S.refused(FULL, "apart(0, 0, 1000, 0) = 993; apart(0, 0, 1000, 1) = 7; apart(1, 0, 1000, 0) = 1000; apart(0, 2, 4, 0) = 0");
        S.refused(FULL, "apart(2, 0, 5, 0) = HIDDEN; apart(-1, 0, 5, 0) = HIDDEN; apart(0, -1, 5, 0) = HIDDEN",
                "apart(0, 0, 1001, 0) = HIDDEN; apart(0, 5, 4, 0) = HIDDEN; apart(0, 1001, 1001, 1) = HIDDEN",
                "apart(0, 0, 5, 2) = HIDDEN; apart(0, 0, 5, -1) = HIDDEN; apart(MIN, 0, 5, 0) = HIDDEN",
                "apart(MAX, 0, 5, 1) = HIDDEN; apart(0, MIN, 5, 0) = HIDDEN; apart(0, 0, MAX, 0) = HIDDEN",
                "apart(0, 0, 5, MAX) = HIDDEN; apart(0, -1, -1, 0) = HIDDEN; apart(0, 0, 5, MIN) = HIDDEN");
    }

    private static void loyal() {
        S.says("loyal", "LOYAL from a minute to one (that one not): the SERVANT that is longest in all with a MASTER");
        LastThanked x = S.run("house r2;s;s;s;m;m", "thank(0, 0, 0) = 1; thank(0, 1, 2) = 2; thank(1, 0, 3) = 3; thank(0, 0, 7) = 4");
        S.on(x, "thank(1, 1, 7) = 5; thank(1, 0, 9) = 6; loyal(0, 0, 20, 0) = 0; loyal(0, 0, 20, 1) = 5; loyal(0, 0, 8, 0) = 1");
        S.on(x, "loyal(0, 0, 8, 1) = 5; loyal(0, 0, 7, 0) = 1; loyal(0, 0, 7, 1) = 5; loyal(1, 0, 1000, 0) = 0");
        S.on(x, "loyal(1, 0, 1000, 1) = 995; loyal(0, 2, 3, 1) = 1; loyal(0, 0, 1, 0) = 0; loyal(0, 0, 1, 1) = 1");
        S.says("loyal", "(of several the lowest)");
        S.on(x, "loyal(0, 0, 9, 0) = 0; loyal(0, 0, 9, 1) = 5; loyal(0, 2, 3, 0) = 0; loyal(1, 7, 8, 0) = 1; loyal(1, 9, 11, 0) = 0");
        S.says("loyal", "NONE: none is ever");
        S.on(x, "loyal(0, 9, 1000, 0) = NONE; loyal(0, 9, 1000, 1) = NONE; loyal(1, 0, 3, 0) = NONE; loyal(1, 0, 3, 1) = NONE");
        S.on(x, "loyal(0, 5, 5, 0) = NONE; loyal(0, 5, 5, 1) = NONE; loyal(0, 1000, 1000, 0) = NONE");
        S.says("loyal", "no such ones, out of bounds.");
        S.refused(FULL, "loyal(0, 0, 1000, 0) = 0; loyal(0, 0, 1000, 1) = 6; loyal(1, 0, 1000, 0) = NONE");
        S.refused(FULL, "loyal(2, 0, 5, 0) = NONE; loyal(-1, 0, 5, 0) = NONE; loyal(0, -1, 5, 0) = NONE; loyal(0, 0, 1001, 0) = NONE",
                "loyal(0, 5, 4, 0) = NONE; loyal(0, 1001, 1001, 0) = NONE; loyal(0, 0, 5, 2) = NONE; loyal(0, 0, 5, -1) = NONE",
                "loyal(MIN, 0, 5, 0) = NONE; loyal(MAX, 0, 5, 0) = NONE; loyal(0, MIN, 5, 0) = NONE; loyal(0, 0, MAX, 1) = NONE",
                "loyal(0, 0, 5, MAX) = NONE; loyal(0, 0, 5, MIN) = NONE");
    }
}
