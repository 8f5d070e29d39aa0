/** All that can be seen of an object, by some 300 calls; those that change it come last. */
final class Look {
    private static final int MINUTES = 12;
    private final LastThanked x;
    private final StringBuilder told = new StringBuilder();

    private Look(LastThanked x) {
        this.x = x;
    }

    static String at(LastThanked x) {
        Look look = new Look(x);
        for (int what = 0; what < 10; what++) {
            look.ask("count(" + what + ")");
        }
        look.house();
        look.thanks();
        look.answers();
        look.tape();
        look.laws();
        look.image();
        look.undone();
        look.anew();
        return look.told.toString();
    }

    /** The first line of one that the other has not. */
    static String difference(String now, String due) {
        String[] lines = now.split("\n");
        String[] others = due.split("\n");
        for (int i = 0; i < lines.length; i++) {
            if (i >= others.length || !lines[i].equals(others[i])) {
                return " (" + lines[i] + ", due is " + (i < others.length ? others[i] : "nothing") + ")";
            }
        }
        return "";
    }

    private void ask(String call) {
        told.append(call).append(" = ").append(Script.answer(x, call)).append('\n');
    }

    private void house() {
        for (int servant = 0; servant < x.count(1); servant++) {
            for (int what = 0; what < 3; what++) {
                ask("servant(" + servant + ", " + what + ")");
            }
        }
        for (int master = 0; master < x.count(2); master++) {
            ask("master(" + master + ")");
        }
        for (int task = 0; task < x.count(3); task++) {
            for (int what = 0; what < 4; what++) {
                ask("task(" + task + ", " + what + ")");
            }
        }
    }

    private void thanks() {
        counted();
        for (int servant = 0; servant < x.count(1); servant++) {
            for (int minute = 0; minute < MINUTES; minute++) {
                ask("leans(" + servant + ", " + minute + ")");
            }
            ask("leans(" + servant + ", 999)");
        }
        for (int n = 0; n < 4; n++) {
            ask("rows(" + n + ")");
        }
    }

    private void counted() {
        int size = x.count(6);
        for (int i = 0; i < size; i++) {
            if (i < 6 || i > 36) {
                ask("counted(" + i + ")");
            }
        }
    }

    private void answers() {
        String[] calls = {"head(0, 7)", "leads(0, 7)", "longest(7, 1)", "path(1, 7, 0)", "holds(0, 7)", "one(0, 7, 1)",
            "cut(1, 0, 7, 1)", "wages(0, 0, 1000)", "plan(0, 0)", "plan(0, 1)", "stolen(0, 0)", "bars(0)", "fewest()",
            "rivals(0, 1, 2, 0)", "all(0, 7, 1)", "changes(1, 0, 1000)", "swing(7, 0)", "apart(0, 0, 1000, 0)",
            "loyal(0, 0, 1000, 0)", "ruin(0)"};
        for (String call : calls) {
            ask(call);
        }
    }

    private void tape() {
        ask("fault(0)");
        ask("fault(1)");
        int length = x.count(5);
        for (int n = length - 1; n >= 0 && n > length - 8; n--) {
            ask("end(" + n + ")");
            ask("fault(0)");
            ask("fault(1)");
        }
        ask("end(0)");
    }

    private void laws() {
        int holds = x.count(7);
        for (int law = -1; law < x.count(4); law++) {
            ask("set(0, " + law + ")");
            counted();
        }
        ask("set(0, " + holds + ")");
        ask("set(0, -1)");
        ask("set(1, 0)");
    }

    /** Asked ahead of all undoing, as a wrong undo could spoil the image of both objects that are compared. */
    private void image() {
        ask("back()");
        thanks();
    }

    private void undone() {
        for (int i = 0; i < 6; i++) {
            ask("undo()");
            ask("leans(0, 999)");
            ask("leans(1, 999)");
        }
        ask("back()");
        thanks();
    }

    /** Nothing may have been kept for a house to come. */
    private void anew() {
        told.append("law ").append(Check.tell(x, 1, "y:1")).append('\n');
        x.end(0);
        told.append("house ").append(Check.tell(x, 0, "r2;s;s;m;m")).append('\n');
        ask("thank(1, 0, 2)");
        ask("leans(0, 2)");
        ask("leans(1, 2)");
        ask("rows(1)");
        ask("back()");
    }
}
