/** Sentences of the document that tell a bound or a refusal: texts, the tape, what is set (promises 1 to 9, 38). */
public final class TextEdgesTest {
    private static final Script S = new Script("TextEdgesTest");
    private static final int HOUSE = 0;
    private static final int LAW = 1;
    private static final int RIGHT = -1;
    static final String[] NEW = {};
    /** Something of everything, and a house on the tape. */
    static final String[] FULL = {"law y:n<2?1", "law y:m<1|l>2?1", "house r3;sa2w4;so0;s;ma1;m;tn3;tr2h2p0", "set(0, 1) = 1",
        "set(1, 6) = 1; set(2, 1) = 1", "thank(0, 0, 1) = 1; see(0, 0) = 1; image() = 1", "thank(10, 1, 3) = 2",
        "thank(1, 1, 4) = 3; thank(0, 1, 4) = 4; thank(11, 2, 7) = 5; see(1, 9) = 1", "tape r2;s;m"};

    public static void main(String[] args) {
        newObject();
        rooms();
        clauses();
        items();
        itemsOfServants();
        itemsOfOthers();
        digits();
        blanks();
        tooShort();
        laws();
        conditions();
        depth();
        numbersOfLaws();
        worth();
        tape();
        end();
        fault();
        housesTold();
        lawsTold();
        whatIsTold();
        settings();
        counts();
        S.end();
    }

    private static void newObject() {
        S.says("promise 1", "A new object .. No HOUSE.");
        S.run("count(0) = 0; count(1) = 0; count(2) = 0; count(3) = 0; count(4) = 0; count(5) = 0; count(6) = 0",
                "count(7) = NONE; count(8) = 0; count(9) = 0");
        S.run("house r2;s;m", "back() = NONE");
        S.says("promise 1", "no HOUSE");
        S.refused(NEW, "longest(0, 0) = NONE; longest(0, 1) = NONE; plan(0, 0) = HIDDEN; plan(0, 1) = HIDDEN",
                "plan(0, 2) = HIDDEN; stolen(0, 0) = HIDDEN; ruin(0) = HIDDEN; rows(0) = NONE; rows(12) = NONE",
                "fewest() = NONE; day(1, 1) = NONE; swing(0, 0) = NONE; swing(0, 1) = NONE; image() = NONE; back() = NONE");
        S.says("promise 1", "no such ones");
        S.refused(NEW, "servant(0, 0) = THROWS; master(0) = NONE; task(0, 0) = HIDDEN; set(0, 0) = 0; thank(0, 0, 0) = NONE",
                "thank(10, 0, 0) = NONE; thank(11, 0, 0) = NONE; counted(0) = NONE; undo() = NONE; leans(0, 0) = HIDDEN",
                "head(0, 0) = HIDDEN; holds(0, 0) = NONE; leads(0, 0) = NONE; one(0, 0, 0) = NONE; one(0, 0, 1) = NONE",
                "cut(0, 1, 0, 0) = NONE; cut(0, 1, 0, 1) = NONE; wages(0, 0, 0) = NONE; bars(0) = NONE",
                "rivals(0, 1, 1, 0) = HIDDEN; rivals(0, 1, 1, 1) = HIDDEN; see(0, 9) = 0; see(0, NONE) = 0; see(0, 0) = 0",
                "path(0, 0, NONE) = HIDDEN; path(0, 0, 0) = HIDDEN; all(0, 0, 0) = NONE; all(0, 0, 1) = NONE",
                "changes(0, 0, 0) = NONE; apart(0, 0, 0, 0) = HIDDEN; apart(0, 0, 0, 1) = HIDDEN",
                "loyal(0, 0, 0, 0) = NONE; loyal(0, 0, 0, 1) = NONE");
    }

    private static void rooms() {
        S.says("HOUSE", "r and how many ROOMS (2 .. 6");
        S.text(HOUSE, "r0;s;m", 1);
        S.text(HOUSE, "r1;s;m", 1);
        S.text(HOUSE, "r2;s;m", RIGHT);
        S.text(HOUSE, "r6;s;m", RIGHT);
        S.text(HOUSE, "r7;s;m", 1);
        S.text(HOUSE, "r9;s;m", 1);
        S.text(HOUSE, "r10;s;m", 2);
        S.text(HOUSE, "r22;s;m", 2);
        S.text(HOUSE, "r02;s;m", RIGHT);
        S.text(HOUSE, "r01;s;m", 2);
        S.goesOn(HOUSE, "", "r ", "");
        S.goesOn(HOUSE, "r", "23456 ", "");
        S.goesOn(HOUSE, "r3", "; ", "");
        S.run("house r2;s;m", "count(0) = 2");
        S.run("house r06;s;m", "count(0) = 6");
        S.says("HOUSE", "0 the lowest");
        S.text(HOUSE, "r2;sa0;m", RIGHT);
        S.run("house r2;sa0;ma0;tr0", "servant(0, 0) = 0; master(0) = 0; task(0, 0) = 0");
        S.says("HOUSE", "(a ROOM that there is not");
        S.text(HOUSE, "r2;sa1;m", RIGHT);
        S.text(HOUSE, "r2;sa2;m", 5);
        S.text(HOUSE, "r6;sa5;m", RIGHT);
        S.text(HOUSE, "r6;sa6;m", 5);
        S.text(HOUSE, "r2;s;ma1", RIGHT);
        S.text(HOUSE, "r2;s;ma2", 7);
        S.text(HOUSE, "r6;s;ma5", RIGHT);
        S.text(HOUSE, "r6;s;ma6", 7);
        S.text(HOUSE, "r2;s;m;tr1", RIGHT);
        S.text(HOUSE, "r2;s;m;tr2", 9);
        S.text(HOUSE, "r6;s;m;tr5", RIGHT);
        S.text(HOUSE, "r6;s;m;tr6", 9);
    }

    private static void clauses() {
        S.says("HOUSE", "then CLAUSES, each with ; ahead");
        S.goesOn(HOUSE, "r3;", "smt ", "");
        S.goesOn(HOUSE, "r3;s;m", "a;", " ");
        S.text(HOUSE, "r3;s;m;", 7);
        S.text(HOUSE, "r3;s;;m", 5);
        S.text(HOUSE, "r3s;m", 2);
        S.text(HOUSE, "r3;sm", 4);
        S.says("HOUSE", "s (a SERVANT; 1 .. 5)");
        S.text(HOUSE, "r3;m;m;m;t;t;t;t", 16);
        S.text(HOUSE, "r3;s;m", RIGHT);
        S.text(HOUSE, "r3;s;s;s;s;s;m", RIGHT);
        S.run("house r3;s;m", "count(1) = 1; servant(1, 0) = THROWS");
        S.run("house r3;s;s;s;s;sa2;m", "count(1) = 5; servant(4, 0) = 2; servant(5, 0) = THROWS");
        S.says("HOUSE", "a sixth s .. at it");
        S.text(HOUSE, "r3;s;s;s;s;s;s", 13);
        S.text(HOUSE, "r3;s;s;s;s;s;m;s", 15);
        S.text(HOUSE, "r3;s;s;s;s;s;m; s", 16);
        S.says("HOUSE", "m (a MASTER; 1 .. 3)");
        S.text(HOUSE, "r3;s;s;s;s;s;t;t;t;t", 20);
        S.text(HOUSE, "r3;s;m;m;m", RIGHT);
        S.run("house r3;s;m", "count(2) = 1; master(1) = NONE");
        S.run("house r3;s;m;m;ma2", "count(2) = 3; master(2) = 2; master(3) = NONE");
        S.says("HOUSE", "a fourth m .. at it");
        S.text(HOUSE, "r3;m;m;m;m", 9);
        S.text(HOUSE, "r3;m;m;m;s;m", 11);
        S.says("HOUSE", "t (a TASK; none to 4)");
        S.text(HOUSE, "r3;s;m;t;t;t;t", RIGHT);
        S.run("house r3;s;m", "count(3) = 0; task(0, 0) = HIDDEN");
        S.run("house r3;s;m;t;t;t;tr2", "count(3) = 4; task(3, 0) = 2; task(4, 0) = HIDDEN");
        S.says("HOUSE", "a fifth t .. at it");
        S.text(HOUSE, "r3;s;m;t;t;t;t;t", 15);
        S.text(HOUSE, "r3;t;t;t;t;s;m;t", 15);
        S.says("HOUSE", "in any order");
        S.text(HOUSE, "r3;t;m;s;t;m;s", RIGHT);
        S.run("house r3;tr2;ma1;sa2;t;m;sa1", "task(0, 0) = 2; task(1, 0) = 0; master(0) = 1; master(1) = 0",
                "servant(0, 0) = 2; servant(1, 0) = 1");
    }

    private static void items() {
        S.says("HOUSE", "ITEMS, none or more: a letter, each once at most in a CLAUSE");
        S.text(HOUSE, "r3;sa1o0w2;ma1;tr1h1n1;tr1h1n1p0", RIGHT);
        S.text(HOUSE, "r3;sw2o0a1;ma1;tn1h1r1;tp0n1h1r1", RIGHT);
        S.text(HOUSE, "r3;sa1o0w2;sa1o0w2;ma1;ma1;tr1h1n1;tr1h1n1p0;tr1h1n1p0", RIGHT);
        S.says("HOUSE", "a letter that was there .. at it");
        S.text(HOUSE, "r3;sa1a1;m", 6);
        S.text(HOUSE, "r3;so0o0;m", 6);
        S.text(HOUSE, "r3;sw1w1;m", 6);
        S.text(HOUSE, "r3;sa1o0w2a1;m", 10);
        S.text(HOUSE, "r3;sa1o0w2o0;m", 10);
        S.text(HOUSE, "r3;sa1o0w2w2;m", 10);
        S.text(HOUSE, "r3;s;ma1a1", 8);
        S.text(HOUSE, "r3;s;m;tr1r1", 10);
        S.text(HOUSE, "r3;s;m;th1h1", 10);
        S.text(HOUSE, "r3;s;m;tn1n1", 10);
        S.text(HOUSE, "r3;s;m;t;tp0p0", 12);
        S.text(HOUSE, "r3;s;m;t;tr1h1n1p0r1", 18);
        S.text(HOUSE, "r3;s;m;t;tr1h1n1p0h1", 18);
        S.text(HOUSE, "r3;s;m;t;tr1h1n1p0n1", 18);
        S.text(HOUSE, "r3;s;m;t;tr1h1n1p0p0", 18);
        S.says("HOUSE", "and a number (one or two digits)");
        S.text(HOUSE, "r3;sa;m", 5);
        S.text(HOUSE, "r3;sao0;m", 5);
        S.text(HOUSE, "r3;so;m", 5);
        S.text(HOUSE, "r3;sw;m", 5);
        S.text(HOUSE, "r3;s;ma;t", 7);
        S.text(HOUSE, "r3;s;m;tr;t", 9);
        S.text(HOUSE, "r3;s;m;th;t", 9);
        S.text(HOUSE, "r3;s;m;tn;t", 9);
        S.text(HOUSE, "r3;s;m;t;tp;t", 11);
        S.text(HOUSE, "r3;sa-1;m", 5);
        S.text(HOUSE, "r3;sa02o00w09;ma02;tr02h03n05;tp00", RIGHT);
        S.run("house r3;sa02o00w09;ma02;tr02h03n05;tp00n30", "servant(0, 0) = 2; servant(0, 1) = 0; servant(0, 2) = 9",
                "master(0) = 2; task(0, 0) = 2; task(0, 1) = 3; task(0, 2) = 5; task(1, 3) = 0; task(1, 2) = 30");
    }

    private static void itemsOfServants() {
        S.says("HOUSE", "of s: a the ROOM it is in (0), o the MASTER (0 .. 2) who may not thank it (none without), w WAGE (0 .. 9; 1)");
        S.run("house r3;s;m", "servant(0, 0) = 0; servant(0, 1) = NONE; servant(0, 2) = 1");
        S.run("house r3;s;sa2o2w0;sw9o1;so0a1;m;m;m", "servant(1, 0) = 2; servant(1, 1) = 2; servant(1, 2) = 0",
                "servant(2, 0) = 0; servant(2, 1) = 1; servant(2, 2) = 9; servant(3, 0) = 1; servant(3, 1) = 0",
                "servant(3, 2) = 1; servant(0, 0) = 0; servant(0, 1) = NONE; servant(0, 2) = 1");
        S.goesOn(HOUSE, "r3;s", "aow; ", "");
        S.goesOn(HOUSE, "r3;sa", "012 ", "");
        S.goesOn(HOUSE, "r3;sa1", "ow; ", "");
        S.goesOn(HOUSE, "r3;so", "012 ", "");
        S.goesOn(HOUSE, "r3;sw", "0123456789 ", "");
        S.text(HOUSE, "r3;so2;m;m;m", RIGHT);
        S.text(HOUSE, "r3;so3;m;m;m", 5);
        S.text(HOUSE, "r3;sw0;m", RIGHT);
        S.text(HOUSE, "r3;sw9;m", RIGHT);
        S.text(HOUSE, "r3;sw10;m", 6);
        S.says("HOUSE", "with an o that is no MASTER told)");
        S.text(HOUSE, "r3;so0;m", RIGHT);
        S.text(HOUSE, "r3;so1;m", 8);
        S.text(HOUSE, "r3;so1;m  ", 10);
        S.text(HOUSE, "r3;so1;m;m", RIGHT);
        S.text(HOUSE, "r3;so2;m;m", 10);
        S.text(HOUSE, "r3;m;m;s;so2;t", 14);
        S.text(HOUSE, "r3;m;so1;m", RIGHT);
    }

    private static void itemsOfOthers() {
        S.says("HOUSE", "of m: a the ROOM (0)");
        S.run("house r3;s;m;ma2", "master(0) = 0; master(1) = 2");
        S.goesOn(HOUSE, "r3;m", "a; ", "");
        S.goesOn(HOUSE, "r3;m;sa0;m", "a;", " ");
        S.says("HOUSE", "of t: r the ROOM (0), h HANDS (1 .. 3; 1), n MINUTES (1 .. 30; 5), p the TASK it comes after");
        S.run("house r3;s;m;t;tr2h3n30p0;tn1p1", "task(0, 0) = 0; task(0, 1) = 1; task(0, 2) = 5; task(0, 3) = NONE",
                "task(1, 0) = 2; task(1, 1) = 3; task(1, 2) = 30; task(1, 3) = 0; task(2, 2) = 1; task(2, 3) = 1");
        S.goesOn(HOUSE, "r3;s;m;t", "rhnp;", " ");
        S.goesOn(HOUSE, "r3;s;m;tr", " ", "012");
        S.goesOn(HOUSE, "r3;s;m;th", " ", "123");
        S.goesOn(HOUSE, "r3;s;m;tn", " ", "123456789");
        S.goesOn(HOUSE, "r3;s;m;tn3", "rhp;", "0 ");
        S.text(HOUSE, "r3;s;m;th0", 9);
        S.text(HOUSE, "r3;s;m;th3", RIGHT);
        S.text(HOUSE, "r3;s;m;th4", 9);
        S.text(HOUSE, "r3;s;m;tn0", 9);
        S.text(HOUSE, "r3;s;m;tn1", RIGHT);
        S.text(HOUSE, "r3;s;m;tn30", RIGHT);
        S.text(HOUSE, "r3;s;m;tn31", 10);
        S.says("HOUSE", "(a lower number; none without)");
        S.goesOn(HOUSE, "r3;s;m;tp", " ", "");
        S.goesOn(HOUSE, "r3;s;m;t;tp", " ", "0");
        S.goesOn(HOUSE, "r3;s;m;t;t;tp", " ", "01");
        S.goesOn(HOUSE, "r3;s;m;t;t;t;tp", " ", "012");
        S.text(HOUSE, "r3;s;m;tp0;t", 9);
        S.says("HOUSE", "a TASK that is not lower) is wrong at its last digit");
        S.text(HOUSE, "r3;s;m;tp00;t", 10);
        S.text(HOUSE, "r3;s;m;t;tp01;t", 12);
        S.text(HOUSE, "r3;s;m;t;tp02;t", 12);
    }

    private static void digits() {
        S.says("FAULT", "a number out of bounds .. is wrong at its last digit");
        S.text(HOUSE, "r77", 2);
        S.text(HOUSE, "r00", 2);
        S.text(HOUSE, "r3;sa03;m", 6);
        S.text(HOUSE, "r3;sa99;m", 6);
        S.text(HOUSE, "r3;so03;m", 6);
        S.text(HOUSE, "r3;so30;m", 6);
        S.text(HOUSE, "r3;sw10;m", 6);
        S.text(HOUSE, "r3;s;ma03", 8);
        S.text(HOUSE, "r3;s;m;tr03", 10);
        S.text(HOUSE, "r3;s;m;th04", 10);
        S.text(HOUSE, "r3;s;m;th00", 10);
        S.text(HOUSE, "r3;s;m;tn00", 10);
        S.text(HOUSE, "r3;s;m;tn31", 10);
        S.text(HOUSE, "r3;s;m;tn99", 10);
        S.says("FAULT", "a third digit (a fifth one in a LAW) itself, whatever stands ahead of it");
        S.text(HOUSE, "r003;s;m", 3);
        S.text(HOUSE, "r777;s;m", 3);
        S.text(HOUSE, "r3;sa000;m", 7);
        S.text(HOUSE, "r3;sa999;m", 7);
        S.text(HOUSE, "r3;so000;m", 7);
        S.text(HOUSE, "r3;so333;m", 7);
        S.text(HOUSE, "r3;sw001;m", 7);
        S.text(HOUSE, "r3;sw100;m", 7);
        S.text(HOUSE, "r3;s;ma001", 9);
        S.text(HOUSE, "r3;s;ma301", 9);
        S.text(HOUSE, "r3;s;m;tr001", 11);
        S.text(HOUSE, "r3;s;m;th001", 11);
        S.text(HOUSE, "r3;s;m;th000", 11);
        S.text(HOUSE, "r3;s;m;tn005", 11);
        S.text(HOUSE, "r3;s;m;tn311", 11);
        S.text(HOUSE, "r3;s;m;tp000", 11);
        S.text(HOUSE, "r3;s;m;t;tp000", 13);
        S.text(HOUSE, "r3;sa1111;m", 7);
        S.text(LAW, "y:00001", 6);
        S.text(LAW, "y:99999", 6);
        S.text(LAW, "y:123456", 6);
        S.text(LAW, "y:m=12345?1", 8);
        S.text(LAW, "y:m=1?[12345]", 11);
    }

    private static void blanks() {
        S.says("Blanks", "Blanks (32) may stand between all signs of both, not within numbers.");
        S.text(HOUSE, "  r  3  ;  s  a  2  o  0  w  9  ;  m  a  1  ;  t  r  1  h  1  n  30  ;  t  p  0  ", RIGHT);
        S.text(LAW, "  y  :  !  (  m  =  12  &  [  s  ]  <  1  )  |  t  >  2  ?  1234  *  n  -  l  ;  y  :  1  ", RIGHT);
        S.text(HOUSE, "r0 3;s;m", 1);
        S.text(HOUSE, "r2 0;s;m", 3);
        S.text(HOUSE, "r3;sa0 1;m", 7);
        S.text(HOUSE, "r3;sw1 0;m", 7);
        S.text(HOUSE, "r3;s;m;tn3 0", 11);
        S.text(LAW, "y:1 2", 4);
        S.text(LAW, "y:1 ", RIGHT);
        S.text(LAW, "y:m=1 2?1", 6);
        S.text(LAW, "y:1234 5", 7);
        S.text(HOUSE, "r3;\ts;m", 3);
        S.text(HOUSE, "r3;s;m\n", 6);
        S.text(HOUSE, "\u00a0r3;s;m", 0);
        S.text(LAW, "y:\t1", 2);
        S.text(LAW, "y:1\r", 3);
        S.text(LAW, "y\u00a0:1", 1);
    }

    private static void tooShort() {
        S.says("FAULT", "(the length, if it ends too early, or without a SERVANT, a MASTER");
        prefixes(HOUSE, "r3;sa2o0w9;ma1;tr1h1n30", 12, 14, 16, 18, 20, 22, 23);
        prefixes(LAW, "y:!(m=1&[s]<2)|t>3?[n+l]*2;y:1", 24, 26, 30);
        S.text(HOUSE, "r3;s", 4);
        S.text(HOUSE, "r3;m", 4);
        S.text(HOUSE, "r3;t", 4);
        S.text(HOUSE, "r3;s;t;s ", 9);
        S.text(HOUSE, "r3;m;t;m ", 9);
    }

    /** All that ends too early but at the lengths told, as it is and with blanks behind. */
    private static void prefixes(int sort, String text, int... whole) {
        for (int n = 0; n <= text.length(); n++) {
            boolean right = false;
            for (int length : whole) {
                right |= n == length;
            }
            S.text(sort, text.substring(0, n), right ? RIGHT : n);
            S.text(sort, text.substring(0, n) + "  ", right ? RIGHT : n + 2);
        }
    }

    private static void laws() {
        S.says("LAWS", "CLAUSES with ; between, one at least: y, : , perhaps CONDITION ?, then SUM");
        S.text(LAW, "", 0);
        S.text(LAW, ";", 0);
        S.text(LAW, "y:1", RIGHT);
        S.text(LAW, "y:1;", 4);
        S.text(LAW, "y:1;;y:1", 4);
        S.text(LAW, "y:1y:1", 3);
        S.text(LAW, "y:1;y:1;y:m=1?1;y:1", RIGHT);
        S.text(LAW, "y:?1", 2);
        S.text(LAW, "y:m=1?", 6);
        S.text(LAW, "y:m=1?;y:1", 6);
        S.text(LAW, "y:m=1?1?1", 7);
        S.text(LAW, "y:m=1?1=1", 7);
        S.goesOn(LAW, "", "y ", "");
        S.goesOn(LAW, "y", ": ", "");
        S.goesOn(LAW, "y:", "[!( ", "mstnl0123456789");
        S.goesOn(LAW, "y:1;", "y ", "");
        S.says("LAWS", "SUM: TERMS with + or - between; TERM: ATOMS with * or / between");
        for (String sign : new String[] {"+", "-", "*", "/"}) {
            S.goesOn(LAW, "y:m" + sign, "[ ", "mstnl0123456789");
            S.text(LAW, "y:" + sign + "m", 2);
        }
        S.goesOn(LAW, "y:m", "+-*/=<>;", " ");
        S.says("LAWS", "ATOM: a number (1 to 4 digits), a letter (m s t n l), [ SUM ]");
        S.goesOn(LAW, "y:1", "+-*/=<>;", " 0123456789");
        S.goesOn(LAW, "y:123", "+-*/=<>;", " 0123456789");
        S.goesOn(LAW, "y:1234", "+-*/=<>;", " ");
        S.goesOn(LAW, "y:[", "[mstnl0123456789 ", "");
        S.goesOn(LAW, "y:[m", "+-*/ ", "]");
        S.goesOn(LAW, "y:[m]", "+-*/=<>;", " ");
        S.text(LAW, "y:[]", 3);
        S.text(LAW, "y:[m=1]?1", 4);
    }

    private static void conditions() {
        S.says("LAWS", "CONDITION: TRUTHS with | between; TRUTH: UNITS with & between; UNIT: .. SUM, one of = < >, SUM");
        for (String sign : new String[] {"=", "<", ">"}) {
            S.goesOn(LAW, "y:m" + sign, "[mstnl0123456789 ", "");
            S.goesOn(LAW, "y:m" + sign + "s", "+-*/&|? ", "");
            S.text(LAW, "y:m" + sign + "1" + sign + "2?1", 5);
        }
        S.goesOn(LAW, "y:m=1", "+-*/&|?0123456789 ", "");
        S.goesOn(LAW, "y:m=1&", "[!(mstnl0123456789 ", "");
        S.goesOn(LAW, "y:m=1|", "[!(mstnl0123456789 ", "");
        S.goesOn(LAW, "y:m=1&s", "+-*/=<> ", "");
        S.goesOn(LAW, "y:m=1|s", "+-*/=<> ", "");
        S.goesOn(LAW, "y:m=1?", "[ ", "mstnl0123456789");
        S.goesOn(LAW, "y:m=1?1", "+-*/;", " 0123456789");
        S.says("LAWS", "UNIT: ! UNIT, ( CONDITION )");
        S.goesOn(LAW, "y:!", "!([mstnl0123456789 ", "");
        S.goesOn(LAW, "y:!m", "+-*/=<> ", "");
        S.goesOn(LAW, "y:(", "!([mstnl0123456789 ", "");
        S.goesOn(LAW, "y:(m", "+-*/=<> ", "");
        S.goesOn(LAW, "y:(m=1", "+-*/&|)0123456789 ", "");
        S.goesOn(LAW, "y:(m=1)", "&|? ", "");
        S.goesOn(LAW, "y:(m=1)&", "[!(mstnl0123456789 ", "");
        S.goesOn(LAW, "y:((m=1)", "&|) ", "");
        S.goesOn(LAW, "y:!(m=1)", "&|? ", "");
        S.text(LAW, "y:()?1", 3);
        S.text(LAW, "y:m=(1)?1", 4);
        S.says("LAWS", "(A CLAUSE that goes on with ! or ( behind its : has a CONDITION.)");
        S.text(LAW, "y:(m)", 4);
        S.text(LAW, "y:(m=1)", 7);
        S.text(LAW, "y:(m=1);y:1", 7);
        S.text(LAW, "y:(m=1)+1", 7);
        S.text(LAW, "y:!m=1", 6);
        S.text(LAW, "y:!m=1;y:1", 6);
        S.text(LAW, "y:!m;y:1", 4);
        S.text(LAW, "y:!m=1?1", RIGHT);
        S.text(LAW, "y:(m=1)?1", RIGHT);
    }

    private static void depth() {
        S.says("LAWS", "At most six of ( [ ! within one another.");
        S.text(LAW, "y:[[[[[[m]]]]]]", RIGHT);
        S.text(LAW, "y:((((((m=1))))))?1", RIGHT);
        S.text(LAW, "y:!!!!!!m=1?1", RIGHT);
        S.text(LAW, "y:!(!(![m]=1))?1", RIGHT);
        S.text(LAW, "y:(((([[m]]=[[m]]))))?1", RIGHT);
        S.text(LAW, "y:m=1?[[[[[[m]]]]]]", RIGHT);
        S.text(LAW, "y:m=[[[[[[m]]]]]]?1", RIGHT);
        S.text(LAW, "y:[[[[[[m]]]]]]=1?1", RIGHT);
        S.text(LAW, "y:m=1|!!!!!!m=1?1", RIGHT);
        S.text(LAW, "y:m=1&((((((m=1))))))?1", RIGHT);
        S.text(LAW, "y:m=1|m=1&m=[[[[[[1]]]]]]?1", RIGHT);
        S.text(LAW, "y:[1]+[1]+[1]+[1]+[1]+[1]+[1]+[1]", RIGHT);
        S.text(LAW, "y:!m=1&!m=1&!m=1&!m=1|!m=1&!m=1&!m=1&!m=1?1", RIGHT);
        S.text(LAW, "y:(m=1)&(m=1)&(m=1)&(m=1)|(m=1)&(m=1)&(m=1)?1", RIGHT);
        S.text(LAW, "y:!!!!!!m=1?[[[[[[1]]]]]];y:[[[[[[1]]]]]]", RIGHT);
        S.says("LAWS", "a seventh of ( [ ! at it");
        S.text(LAW, "y:[[[[[[[m]]]]]]]", 8);
        S.text(LAW, "y:(((((((m=1)))))))?1", 8);
        S.text(LAW, "y:!!!!!!!m=1?1", 8);
        S.text(LAW, "y:!!!!!!(m=1)?1", 8);
        S.text(LAW, "y:((((((!m=1))))))?1", 8);
        S.text(LAW, "y:((((((m=[1]))))))?1", 10);
        S.text(LAW, "y:!!!!!![m]=1?1", 8);
        S.text(LAW, "y:!!!!!!m=[1]?1", 10);
        S.text(LAW, "y:!(!(![[m]]=1))?1", 8);
        S.text(LAW, "y:!(!(!1=[[m]]))?1", 10);
        S.text(LAW, "y:m=1?[[[[[[[m]]]]]]]", 12);
        S.text(LAW, "y:m=[[[[[[[m]]]]]]]?1", 10);
        S.text(LAW, "y:[[[[[[[m]]]]]]]=1?1", 8);
        S.text(LAW, "y:m=1|!!!!!!!m=1?1", 12);
        S.text(LAW, "y:m=1&(((((((m=1)))))))?1", 12);
        S.text(LAW, "y:m=1|m=1&m=[[[[[[[1]]]]]]]?1", 18);
        S.text(LAW, "y:1+[[[[[[1*[m]]]]]]]", 12);
        S.text(LAW, "y:m=1&((((((m=1|!m=1))))))?1", 16);
    }

    /** The law alone judges one thanks, by master 0 to servant 0 at minute 0. */
    private static void judges(String law, int want) {
        LastThanked x = S.run("house r2;s;m", "law " + law, "set(0, 0) = 1; thank(0, 0, 0) = 1");
        S.due("counted by " + law, x.counted(0), want);
    }

    private static void numbersOfLaws() {
        S.says("LAWS", "Behind each sign numbers are within -1,000,000 .. 1,000,000");
        judges("y:1000*1000-1=9999*100+99?1", 1);
        judges("y:1000*1000=1000*1000-1?1", 0);
        judges("y:1000*1000+1=1000*1000?1", 1);
        judges("y:1001*1000=1000*1000?1", 1);
        judges("y:9999*9999*9999=1000*1000?1", 1);
        judges("y:1000*1000*[1000*1000]=1000*1000?1", 1);
        judges("y:[0-1000*1000]*[1000*1000]=0-1000*1000?1", 1);
        judges("y:9999*9999-9999*100-99=1?1", 1);
        judges("y:1000*1000+1-1=9999*100+99?1", 1);
        judges("y:1000*1000+1-1=1000*1000?1", 0);
        judges("y:1000*1000+1000*1000-1000*1000=0?1", 1);
        judges("y:0-1000*1000+1=0-9999*100-99?1", 1);
        judges("y:0-1000*1000=1-1000*1000?1", 0);
        judges("y:0-1000*1000-1=0-1000*1000?1", 1);
        judges("y:[0-1001]*1000=0-1000*1000?1", 1);
        judges("y:[0-9999]*9999*9999=0-1000*1000?1", 1);
        judges("y:[0-9999]*9999*[0-1]=1000*1000?1", 1);
        judges("y:0-1000*1000-1+1=1-1000*1000?1", 1);
        judges("y:0-1000*1000-1000*1000+1000*1000=0?1", 1);
        S.says("LAWS", "/ cuts towards 0");
        judges("y:7/2=3?1", 1);
        judges("y:[0-7]/2=0-3?1", 1);
        judges("y:7/[0-2]=0-3?1", 1);
        judges("y:[0-7]/[0-2]=3?1", 1);
        judges("y:1/2=0?1", 1);
        judges("y:[0-1]/2=0?1", 1);
        judges("y:6/2=3?1", 1);
        S.says("LAWS", "by 0 gives 0");
        judges("y:7/0=0?1", 1);
        judges("y:0/0=0?1", 1);
        judges("y:[0-7]/[1-1]=0?1", 1);
        judges("y:7/0+1", 1);
        judges("y:1/0", 0);
    }

    private static void worth() {
        S.says("WORTH", "WORTH: the SUM of the first CLAUSE whose CONDITION holds (or has none)");
        judges("y:1;y:0", 1);
        judges("y:0;y:1", 0);
        judges("y:m=0?0;y:1", 0);
        judges("y:m=1?0;y:1", 1);
        judges("y:m=1?0;y:m=2?0;y:m=0?1;y:0", 1);
        judges("y:m=0?1;y:m=0?0", 1);
        S.says("WORTH", "0 without");
        judges("y:m=1?1", 0);
        judges("y:m=1?1;y:m=2?1", 0);
        judges("y:!m=0?1;y:m>0|m<0?1", 0);
        S.says("WORTH", "a WORTH above 0");
        judges("y:0-1", 0);
        judges("y:0", 0);
        judges("y:1", 1);
        judges("y:0-1000*1000", 0);
        judges("y:1000*1000", 1);
        S.says("WORTH", "one of = < >");
        judges("y:1<1?1", 0);
        judges("y:0<1?1", 1);
        judges("y:2<1?1", 0);
        judges("y:1>1?1", 0);
        judges("y:1>0?1", 1);
        judges("y:1>2?1", 0);
        judges("y:1=1?1", 1);
        judges("y:1=2?1", 0);
        S.says("WORTH", "TRUTHS with | between; TRUTH: UNITS with & between");
        judges("y:1=1|1=2&1=2?1", 1);
        judges("y:1=2&1=2|1=1?1", 1);
        judges("y:(1=1|1=2)&1=2?1", 0);
        judges("y:1=2|1=2?1", 0);
        judges("y:1=1&1=2?1", 0);
        judges("y:!1=2&1=2?1", 0);
        judges("y:!(1=2&1=2)?1", 1);
        judges("y:!!1=1?1", 1);
        S.says("WORTH", "TERMS with + or - between; TERM: ATOMS with * or / between");
        judges("y:2+3*4=14?1", 1);
        judges("y:[2+3]*4=20?1", 1);
        judges("y:10-3-2=5?1", 1);
        judges("y:20/2/5=2?1", 1);
        judges("y:20/2*5=50?1", 1);
        judges("y:10-[3-2]=9?1", 1);
    }

    private static void tape() {
        S.says("feed", "Twenty bytes more come to the TAPE .. how many it has");
        LastThanked x = S.run("feed(0, 0, 0, 0, 0) = 0");
        S.on(x, "feed(1, 0, 0, 0, 0) = 1; feed(0, 0, 0, 0, -1) = 5; feed(-1, -1, -1, -1, -1) = 25");
        S.says("feed", "of each number the highest first");
        // The numbers are r3;s ;m;t r1;t p0;t.
        S.run("feed(1915960179, 997014388, 1915829108, 1882209140, 0) = 16; fault(0) = -1; end(15) = 1; fault(0) = 15",
                "end(14) = 1; fault(0) = -1; end(13) = 1; fault(0) = 13; end(11) = 1; fault(0) = 11");
        S.run("feed(0, 0, 0, 0, 1915960179) = 4; feed(996999168, 0, 0, 0, 0) = 6; fault(0) = -1");
        S.says("feed", "bytes of 0 are left out");
        // The numbers are r000 0300 00;0 000s ;00m.
        S.run("feed(1912602624, 3342336, 15104, 115, 989855853) = 6; count(5) = 6; fault(0) = -1; text(0) = 1");
        S.says("feed", "NONE: more than 160.");
        String[] full = {"feed(-1, -1, -1, -1, -1) = 20; feed(-1, -1, -1, -1, -1) = 40; feed(-1, -1, -1, -1, -1) = 60",
            "feed(-1, -1, -1, -1, -1) = 80; feed(-1, -1, -1, -1, -1) = 100; feed(-1, -1, -1, -1, -1) = 120",
            "feed(-1, -1, -1, -1, -1) = 140"};
        S.run(full[0], full[1], full[2], "feed(-1, -1, -1, -1, -1) = 160; feed(0, 0, 0, 0, 0) = 160; count(5) = 160");
        String[] to160 = {full[0], full[1], full[2], "feed(-1, -1, -1, -1, -1) = 160"};
        S.refused(to160, "feed(1, 0, 0, 0, 0) = NONE; feed(0, 0, 0, 0, 16777216) = NONE; feed(-1, -1, -1, -1, -1) = NONE");
        S.refused(to160, "feed(0, 1, 0, 0, 0) = NONE; feed(0, 0, 256, 0, 0) = NONE; feed(0, 0, 0, 65536, 0) = NONE");
        String[] to159 = {full[0], full[1], full[2], "feed(-1, -1, -1, -1, -256) = 159"};
        S.refused(to159, "feed(257, 0, 0, 0, 0) = NONE; feed(1, 0, 0, 0, 1) = NONE; feed(-1, -1, -1, -1, -1) = NONE");
        S.run(to159[0], to159[1], to159[2], to159[3], "feed(0, 0, 1, 0, 0) = 160");
        S.refused(FULL, "feed(0, 0, 0, 0, 0) = 6");
        S.says("feed", "NONE: more than 160.");
        StringBuilder house = new StringBuilder("r2;s;m");
        StringBuilder law = new StringBuilder("y:1");
        while (house.length() < 160) {
            house.insert(2, ' ');
        }
        while (law.length() < 160) {
            law.append(law.length() % 2 == 1 ? "+" : "1");
        }
        law.setLength(159);
        S.text(HOUSE, house.toString(), RIGHT);
        S.text(LAW, law.toString(), RIGHT);
        S.text(LAW, law + "1", RIGHT);
        S.text(LAW, law + "+", 160);
        judges(law.toString(), 1);
    }

    private static void end() {
        S.says("end", "The TAPE has its first n bytes alone.");
        S.run("tape r3;s;mx", "end(7) = 1; count(5) = 7; fault(0) = 6; end(6) = 1; count(5) = 6; fault(0) = -1",
                "end(0) = 1; count(5) = 0; fault(0) = 0; end(0) = 1", "feed(1915960179, 0, 0, 0, 0) = 4; fault(0) = 4");
        S.says("end", "False: n.");
        S.refused(FULL, "end(-1) = 0; end(7) = 0; end(160) = 0; end(161) = 0; end(MIN) = 0; end(MAX) = 0");
        S.refused(FULL, "end(6) = 1");
        S.refused(NEW, "end(1) = 0; end(-1) = 0; end(0) = 1");
    }

    private static void fault() {
        S.says("fault", "NONE: none. -2: no such sort.");
        S.refused(FULL, "fault(0) = NONE; fault(1) = 0; fault(2) = -2; fault(-1) = -2; fault(MAX) = -2; fault(MIN) = -2");
        S.refused(NEW, "fault(0) = 0; fault(1) = 0; fault(2) = -2; fault(-1) = -2");
        S.run("tape y:1", "fault(0) = 0; fault(1) = NONE; fault(2) = -2");
    }

    private static void housesTold() {
        S.says("text", "The TAPE (empty then; if refused it stays) is the HOUSE");
        LastThanked x = S.run("tape r4;sa3o1w0;s;ma2;m;tr1h2n30;tp0", "text(0) = 2; count(5) = 0; text(0) = NONE; count(5) = 0");
        S.on(x, "tape r2;s;m;t", "text(0) = 1; servant(0, 0) = 0; servant(0, 1) = NONE; servant(0, 2) = 1; master(0) = 0",
                "task(0, 0) = 0; task(0, 1) = 1; task(0, 2) = 5; task(0, 3) = NONE; count(0) = 2; count(1) = 1; count(2) = 1",
                "count(3) = 1; servant(1, 0) = THROWS; master(1) = NONE; task(1, 0) = HIDDEN");
        x = S.run("tape r6;sa5o2w9;sa5o2w9;sa5o2w9;sa5o2w9;sa5o2w9;ma5;ma5;ma5;tr5h3n30;tr5h3n30p0;tr5h3n30p1;tr5h3n30p2");
        S.on(x, "text(0) = 5; servant(4, 0) = 5; servant(4, 1) = 2; servant(4, 2) = 9; master(2) = 5; task(3, 0) = 5");
        S.on(x, "task(3, 1) = 3; task(3, 2) = 30; task(3, 3) = 2; count(0) = 6; count(1) = 5; count(2) = 3; count(3) = 4");
        S.says("text", "(THANKS, SEEN, IMAGE of another one are gone");
        for (String next : new String[] {"house r3;sa2w4;so0;s;ma1;m;tn3;tr2h2p0", "house r2;s;s;m;m"}) {
            x = S.run(FULL);
            S.on(x, next, "count(6) = 0; counted(0) = NONE; undo() = NONE; leans(0, 7) = NONE; back() = NONE");
            S.on(x, "rows(0) = 1", "thank(1, 1, 0) = 1; image() = 1; back() = 1");
        }
        S.says("text", "LAWS, which holds, LAST, ONCE stay)");
        S.on(x, "count(4) = 2; count(7) = 1; count(8) = 6; count(9) = 1", "counted(0) = 1; leans(1, 5) = 1; leans(1, 6) = NONE");
        S.on(x, "set(0, 0) = 1; thank(1, 1, 0) = 2; thank(1, 1, 0) = 3; counted(1) = 1; counted(2) = 0; set(0, 2) = 0");
        S.says("text", "NONE: a FAULT, no such sort");
        String[] wrong = FULL.clone();
        for (String tape : new String[] {"tape r2;s", "tape r2;so1;m", "tape r7;s;m", "tape r2;s;m;s;s;s;s;s", "tape x"}) {
            wrong[wrong.length - 1] = tape;
            S.refused(wrong, "text(0) = NONE; text(1) = NONE");
        }
        wrong[wrong.length - 1] = "end(0) = 1";
        S.refused(wrong, "text(0) = NONE; text(1) = NONE");
        S.refused(FULL, "text(2) = NONE; text(-1) = NONE; text(1) = NONE; text(MAX) = NONE; text(MIN) = NONE");
    }

    private static void lawsTold() {
        S.says("text", "a LAW: its number");
        LastThanked x = S.run("tape y:1", "text(1) = 0; count(5) = 0; count(4) = 1; count(7) = NONE");
        S.on(x, "tape y:0", "text(1) = 1; count(4) = 2; count(7) = NONE", "tape y:2", "text(1) = 2", "tape y:0-1", "text(1) = 3");
        S.on(x, "house r2;s;m", "thank(0, 0, 0) = 1", "set(0, 0) = 1; counted(0) = 1; set(0, 1) = 1; counted(0) = 0",
                "set(0, 2) = 1; counted(0) = 1; set(0, 3) = 1; counted(0) = 0");
        S.says("text", "LAWS (4 at most) .. there are four LAWS");
        String[] four = FULL.clone();
        four[four.length - 1] = "end(0) = 1";
        x = S.run(four);
        S.on(x, "law y:1", "count(4) = 3", "law y:0", "count(4) = 4", "tape y:1", "text(1) = NONE; count(4) = 4; count(5) = 3");
        four[1] = "law y:m<1|l>2?1";
        String[] made = {"law y:0", "law y:0", FULL[0], FULL[1], FULL[2], "set(0, 3) = 1", FULL[4], FULL[5], FULL[6], FULL[7],
            "tape y:1"};
        S.refused(made, "text(1) = NONE; text(0) = NONE; fault(1) = NONE");
        S.says("text", "a LAW: its number");
        x = S.run(FULL);
        S.on(x, "law y:1", "count(0) = 3; count(1) = 3; count(2) = 2; count(3) = 2; count(4) = 3; count(5) = 0; count(6) = 5",
                "count(7) = 1; count(8) = 6; count(9) = 1; counted(0) = 1; counted(2) = 0; rows(0) = 0; back() = 1");
    }

    private static void whatIsTold() {
        S.says("servant, master, task", "Of a SERVANT: 0 its ROOM, 1 who may not thank it (NONE), 2 WAGE. NoSuchElementException: no such ones.");
        S.run("house r3;sa2o0w4;sw0;m", "servant(0, 0) = 2; servant(0, 1) = 0; servant(0, 2) = 4; servant(1, 0) = 0",
                "servant(1, 1) = NONE; servant(1, 2) = 0");
        S.refused(FULL, "servant(3, 0) = THROWS; servant(4, 0) = THROWS; servant(5, 0) = THROWS; servant(-1, 0) = THROWS",
                "servant(0, 3) = THROWS; servant(0, -1) = THROWS; servant(MIN, 0) = THROWS; servant(MAX, 0) = THROWS",
                "servant(0, MIN) = THROWS; servant(0, MAX) = THROWS; servant(10, 0) = THROWS");
        S.says("servant, master, task", "The ROOM of a MASTER. NONE: no such one.");
        S.run("house r3;s;ma2;m", "master(0) = 2; master(1) = 0");
        S.refused(FULL, "master(2) = NONE; master(3) = NONE; master(-1) = NONE; master(MIN) = NONE; master(MAX) = NONE");
        S.says("servant, master, task", "Of a TASK: .. HIDDEN: no such ones.");
        S.refused(FULL, "task(2, 0) = HIDDEN; task(4, 0) = HIDDEN; task(-1, 0) = HIDDEN; task(0, 4) = HIDDEN",
                "task(0, -1) = HIDDEN; task(MIN, 0) = HIDDEN; task(MAX, 0) = HIDDEN; task(0, MIN) = HIDDEN; task(0, MAX) = HIDDEN");
        S.says("servant, master, task", "3 what it comes after (NONE)");
        S.run("house r3;s;m;t;tp0", "task(0, 3) = NONE; task(1, 3) = 0");
    }

    private static void settings() {
        S.says("set", "The LAW that holds (what 0; NONE: none)");
        LastThanked x = S.run("set(0, NONE) = 1; count(7) = NONE", "law y:0", "law y:1", "house r2;s;m", "thank(0, 0, 0) = 1");
        S.on(x, "counted(0) = 1; set(0, 0) = 1; count(7) = 0; counted(0) = 0; set(0, 1) = 1; count(7) = 1; counted(0) = 1",
                "set(0, 0) = 1; set(0, NONE) = 1; count(7) = NONE; counted(0) = 1");
        S.says("set", "LAST (1)");
        S.on(x, "count(8) = 0; set(1, 1) = 1; count(8) = 1; leans(0, 0) = 0; leans(0, 1) = NONE; set(1, 999) = 1; count(8) = 999",
                "leans(0, 998) = 0; leans(0, 999) = NONE; set(1, 0) = 1; count(8) = 0; leans(0, 999) = 0");
        S.says("set", "ONCE (2)");
        S.on(x, "count(9) = 0; set(2, 1) = 1; count(9) = 1; set(2, 0) = 1; count(9) = 0");
        S.says("set", "False: no such ones, out of bounds.");
        S.refused(FULL, "set(0, 2) = 0; set(0, 3) = 0; set(0, -2) = 0; set(0, MAX) = 0; set(0, MIN) = 0");
        S.refused(FULL, "set(1, -1) = 0; set(1, 1000) = 0; set(1, MAX) = 0; set(1, MIN) = 0");
        S.refused(FULL, "set(2, -1) = 0; set(2, 2) = 0; set(2, MAX) = 0; set(2, MIN) = 0");
        S.refused(FULL, "set(3, 0) = 0; set(-1, 0) = 0; set(3, 1) = 0; set(MAX, 0) = 0; set(MIN, 0) = 0");
        S.refused(FULL, "set(0, 1) = 1; set(1, 6) = 1; set(2, 1) = 1");
        S.refused(NEW, "set(0, 0) = 0; set(0, 1) = 0; set(1, 1000) = 0; set(2, 2) = 0; set(3, 0) = 0");
    }

    private static void counts() {
        S.says("count", "0 ROOMS, 1 SERVANTS, .. HIDDEN for others.");
        S.refused(FULL, "count(0) = 3; count(1) = 3; count(2) = 2; count(3) = 2; count(4) = 2; count(5) = 6; count(6) = 5",
                "count(7) = 1; count(8) = 6; count(9) = 1; count(10) = HIDDEN; count(-1) = HIDDEN; count(MAX) = HIDDEN",
                "count(MIN) = HIDDEN");
    }
}
