/** Promises 9 to 15 and 47 to 50: a test of its own for each sentence that names a boundary. */
public final class EdgesActsTest {
    private static final String SEVEN = "90;90;90;90;90;90;90";
    private static final String ALL = "0bcdefg;1acdefg;2abdefg;3abcefg;4abcdfg;5abcdeg;6abcdef";
    private static final String SIXTY = "n1n1n1n1n1n1n1n1n1n1n1n1n1n1n1n1n1n1n1n1n1n1n1n1n1n1n1n1n1n1";
    private static final int[] FAR = {Integer.MIN_VALUE, -100, -1, 100, Integer.MAX_VALUE};

    public static void main(String[] args) {
        morningsMany();
        morningsOfNone();
        morningsUnmet();
        morningsWoken();
        morningsRefused();
        wishesTurn();
        wishesRefused();
        pillsMany();
        pillsAbove();
        pillsRefused();
        learnsEach();
        learnsSo();
        learnsRefused();
        leavesMany();
        leavesNone();
        leavesRefused();
        weekEmpty();
        weekActs();
        weekWithoutSigns();
        weekTillOne();
        weekUnmet();
        weekSign();
        weekEndsEarly();
        weekSixty();
        weekNothing();
        undoTwelve();
        undoTwelveRefused();
        undoEach();
        undoDone();
        undoMornings();
        undoWeek();
        undoAsAhead();
        undoLeft();
        undoForgotten();
        undoNotForgotten();
        keepNumbers();
        keepRefused();
        againAsKept();
        againNothing();
        againTold();
        countEach();
        countRefused();
        rowMissing();
        Check.ends();
    }

    private static void morningsMany() {
        Check.says(9, "n MORNINGS (0 .. 60)");
        BellForWanted x = Check.bell("50;50", "0b");
        Check.due("one", x.mornings(1), 2);
        Check.due("DAY 1", x.count(1), 1);
        Check.due("sixty", x.mornings(60), 2);
        Check.due("DAY 61", x.count(1), 61);
        Check.due("WOKEN", x.one(1, 3), 61);
    }

    private static void morningsOfNone() {
        Check.says(9, "(bits; 0 for n 0)");
        BellForWanted x = Check.bell("50;50", "0b");
        x.mornings(2);
        x.serves();
        Check.due("none", x.mornings(0), 0);
        Check.row("none", x, 0, 2);
        Check.due("DAY", x.count(1), 2);
    }

    private static void morningsUnmet() {
        Check.says(9, "UNMET more in these (as it grew)");
        BellForWanted x = Check.bell(SEVEN, ALL, "0");
        for (int i = 0; i < 23; i++) {
            x.mornings(60);
            Check.row("sixty", x, 420, 0);
        }
        x.mornings(48);
        Check.due("UNMET", x.count(2), 9996);
        x.mornings(2);
        Check.row("up to 9999", x, 3, 0);
        x.mornings(60);
        Check.row("no more", x, 0, 0);
    }

    private static void morningsWoken() {
        Check.says(9, "WOKEN together then");
        BellForWanted x = Check.bell("50;50;50", "0b;1a");
        for (int i = 0; i < 16; i++) {
            x.mornings(60);
        }
        x.mornings(39);
        Check.row("two of 999", x, 0, 1998);
        x.mornings(60);
        Check.row("no more", x, 0, 1998);
    }

    private static void morningsRefused() {
        Check.says(9, "Refused: another n.");
        BellForWanted x = Check.bell("50;50", "0b");
        Check.due("61", x.mornings(61), -1);
        for (int n : FAR) {
            Check.due("mornings(" + n + ")", x.mornings(n), -1);
        }
        Check.due("DAY", x.count(1), 0);
    }

    private static void wishesTurn() {
        Check.says(10, "One wants another one from now on, or no more: whom he wants then (bits).");
        BellForWanted x = Check.bell(SEVEN, "");
        Check.due("the first wants the last", x.wishes(0, 6), 64);
        Check.due("the last wants the first", x.wishes(6, 0), 1);
        Check.due("another one, too", x.wishes(6, 5), 33);
        Check.due("no more", x.wishes(6, 0), 32);
        Check.due("nobody more", x.wishes(6, 5), 0);
        Check.due("done, though nobody is wanted", x.count(10), 5);
    }

    private static void wishesRefused() {
        Check.says(10, "NONE: none such, like ones.");
        BellForWanted x = Check.bell("50;50;50", "");
        Check.due("one behind the last", x.wishes(3, 0), -1);
        Check.due("another one behind the last", x.wishes(0, 3), -1);
        for (int one : FAR) {
            Check.due("one " + one, x.wishes(one, 0), -1);
            Check.due("another " + one, x.wishes(0, one), -1);
            Check.due("like ones " + one, x.wishes(one, one), -1);
        }
        for (int one = 0; one < 3; one++) {
            Check.due("like ones", x.wishes(one, one), -1);
        }
        Check.due("one 32 above another", x.wishes(0, 33), -1);
        Check.due("no WANTS", x.count(3), 0);
        Check.due("without PEOPLE", new BellForWanted().wishes(0, 1), -1);
    }

    private static void pillsMany() {
        Check.says(11, "One takes n (1 .. 9) PILLS more: PILLS.");
        BellForWanted x = Check.bell("50;50", "");
        Check.due("one", x.pills(0, 1), 1);
        Check.due("up to 9", x.pills(0, 8), 9);
        Check.due("nine", x.pills(1, 9), 9);
        Check.due("all", x.count(5), 18);
    }

    private static void pillsAbove() {
        Check.says(11, "-2: they would be above 9");
        BellForWanted x = Check.bell("50;51;59", "");
        Check.due("1 and 9", x.pills(1, 9), -2);
        Check.due("9 and 1", x.pills(2, 1), -2);
        Check.due("9 and 9", x.pills(2, 9), -2);
        Check.due("1 and 8", x.pills(1, 8), 9);
        Check.due("nothing but this", x.count(5), 18);
    }

    private static void pillsRefused() {
        Check.says(11, "NONE: others.");
        BellForWanted x = Check.bell("50;59", "");
        Check.due("n 0", x.pills(0, 0), -1);
        Check.due("n 10", x.pills(0, 10), -1);
        Check.due("n 10 of one with 9", x.pills(1, 10), -1);
        Check.due("n 0 of one with 9", x.pills(1, 0), -1);
        Check.due("one behind the last", x.pills(2, 1), -1);
        for (int far : FAR) {
            Check.due("n " + far, x.pills(0, far), -1);
            Check.due("one " + far, x.pills(far, 1), -1);
        }
        Check.due("PILLS", x.count(5), 9);
    }

    private static void learnsEach() {
        Check.says(12, "SKILL of one becomes v (0 .. 9): 10 and what it was.");
        BellForWanted x = Check.bell("00;90", "");
        Check.due("from 0 to 9", x.learns(0, 9), 10);
        Check.due("from 9 to 0", x.learns(1, 0), 19);
        Check.due("SKILL 9", x.one(0, 0), 9);
        Check.due("SKILL 0", x.one(1, 0), 0);
    }

    private static void learnsSo() {
        Check.says(12, "-2: it is so");
        BellForWanted x = Check.bell("00;90", "");
        Check.due("0", x.learns(0, 0), -2);
        Check.due("9", x.learns(1, 9), -2);
        Check.due("nothing was done", x.count(10), 0);
    }

    private static void learnsRefused() {
        Check.says(12, "NONE: others.");
        BellForWanted x = Check.bell("00;90", "");
        Check.due("v 10", x.learns(1, 10), -1);
        Check.due("one behind the last", x.learns(2, 5), -1);
        for (int far : FAR) {
            Check.due("v " + far, x.learns(0, far), -1);
            Check.due("one " + far, x.learns(far, 5), -1);
        }
        Check.due("SKILLS", x.count(4), 9);
    }

    private static void leavesMany() {
        Check.says(13, "how many WANTS (one of another one each) are gone");
        BellForWanted x = Check.bell(SEVEN, ALL);
        Check.due("42 there are", x.count(3), 42);
        Check.due("six of his and six of others", x.leaves(3), 12);
        Check.due("30 are left", x.count(3), 30);
        BellForWanted two = Check.bell("50;50;50", "0b;1a");
        Check.due("two who want each other", two.leaves(0), 2);
        Check.due("who wants", Check.bell("50;50", "0b").leaves(0), 1);
        Check.due("who is wanted", Check.bell("50;50", "0b").leaves(1), 1);
    }

    private static void leavesNone() {
        Check.says(13, "-2: there were none");
        BellForWanted x = Check.bell("50;50;50", "0b");
        Check.due("neither wants nor is wanted", x.leaves(2), -2);
        x.leaves(0);
        Check.due("again", x.leaves(0), -2);
        Check.due("one was done", x.count(10), 1);
    }

    private static void leavesRefused() {
        Check.says(13, "NONE: none such.");
        BellForWanted x = Check.bell("50;50;50", "0b");
        Check.due("behind the last", x.leaves(3), -1);
        for (int far : FAR) {
            Check.due("leaves(" + far + ")", x.leaves(far), -1);
        }
        Check.due("without PEOPLE", new BellForWanted().leaves(0), -1);
        Check.due("WANTS", x.count(3), 1);
    }

    private static void weekEmpty() {
        Check.says(14, "(an empty one: nothing)");
        BellForWanted x = Check.bell("00;00", "0b");
        x.mornings(3);
        Check.due("empty", Check.week(x, ""), 0);
        Check.row("empty", x, 0, 3);
        Check.due("nothing more to be undone", x.count(10), 1);
    }

    private static void weekActs() {
        Check.says(14, "n and a digit (mornings()), t and two digits (wishes()), p, a digit and a digit 1 .. 9 (pills())");
        BellForWanted x = Check.bell("50;50", "");
        Check.due("n0", Check.week(x, "n0"), 1);
        Check.due("no DAY", x.count(1), 0);
        Check.due("n9", Check.week(x, "n9"), 1);
        Check.due("nine DAYS", x.count(1), 9);
        Check.due("p01", Check.week(x, "p01"), 1);
        Check.due("p19", Check.week(x, "p19"), 1);
        Check.due("PILLS", x.count(5), 10);
        Check.due("s00", Check.week(x, "s00"), 1);
        Check.due("s09", Check.week(x, "s09"), 1);
        Check.due("SKILL", x.one(0, 0), 9);
        Check.due("t01t01", Check.week(x, "t01t01"), 2);
        Check.due("no WANTS", x.count(3), 0);
        Check.due("t10l1", Check.week(x, "t10l1"), 2);
        Check.due("no WANTS again", x.count(3), 0);
    }

    private static void weekWithoutSigns() {
        Check.says(14, "ACTS one behind another, without signs between");
        BellForWanted x = Check.bell("50;50", "");
        Check.due("five", Check.week(x, "n1t01p01s09l0"), 5);
        Check.row("five", x, 0, 0);
        weekFault("n1;t01", -3);
        weekFault("n1,t01", -3);
        weekFault("n1 t01", -3);
        weekFault(" n1", -1);
        weekFault("n1\0", -3);
    }

    private static void weekTillOne() {
        Check.says(14, "they are done one by one, till one can't be (it answers below 0): how many were done");
        String[] cant = {"t00", "t02", "t20", "t99", "p09", "p21", "p91", "s05", "s20", "l0", "l2", "l9"};
        for (String act : cant) {
            BellForWanted x = Check.bell("59;50", "");
            Check.due("week() of " + act, Check.week(x, act + "n1"), 0);
            Check.row("week() of " + act, x, 1, 0);
            Check.due("nothing is done behind " + act, x.count(1), 0);
            Check.due("week() of two and " + act, Check.week(x, "n1s19" + act + "n1"), 2);
            Check.row("week() of two and " + act, x, 1, 0);
            Check.due("one DAY of " + act, x.count(1), 1);
        }
        BellForWanted all = Check.bell("51;50", "");
        Check.due("all", Check.week(all, "n1n1"), 2);
        Check.row("all", all, 0, 0);
        BellForWanted last = Check.bell("51;50", "");
        Check.due("the last can't be", Check.week(last, "n1l0"), 1);
        Check.row("the last can't be", last, 1, 0);
    }

    private static void weekUnmet() {
        Check.says(14, "the ROW: 1 if one could not be, else 0; UNMET then");
        BellForWanted x = Check.bell("00;00;00", "0b;1c");
        x.mornings(1);
        Check.due("week()", Check.week(x, "n2t20n1"), 3);
        Check.row("all UNMET, not of the week alone", x, 0, 9);
    }

    private static void weekFault(String text, int due) {
        BellForWanted x = Check.bell("50;50", "0b");
        Check.due("week() of " + text, Check.week(x, text), due);
        Check.due("no DAY by " + text, x.count(1), 0);
        Check.due("nothing to be undone of " + text, x.count(10), 0);
    }

    private static void weekSign() {
        Check.says(14, "-1 - p: the sign at p can't stand there");
        weekFault("x", -1);
        weekFault("0", -1);
        weekFault(";", -1);
        weekFault("n1;", -3);
        weekFault("n1 n1", -3);
        weekFault("n/", -2);
        weekFault("n:", -2);
        weekFault("nx", -2);
        weekFault("n10", -3);
        weekFault("t0x", -3);
        weekFault("tx0", -2);
        weekFault("t010", -4);
        weekFault("p00", -3);
        weekFault("p0:", -3);
        weekFault("p0/", -3);
        weekFault("s0x", -3);
        weekFault("l00", -3);
        weekFault("lx", -2);
        weekFault("n1n1n1m1", -7);
    }

    private static void weekEndsEarly() {
        Check.says(14, "its end, if it ends too early");
        weekFault("n", -2);
        weekFault("t", -2);
        weekFault("t0", -3);
        weekFault("p", -2);
        weekFault("p0", -3);
        weekFault("s", -2);
        weekFault("s1", -3);
        weekFault("l", -2);
        weekFault("n1n1t0", -7);
    }

    private static void weekSixty() {
        Check.says(14, "60, if it has more and the first 60 could go on or end");
        weekFault(SIXTY + "n1", -61);
        weekFault(SIXTY + "n", -61);
        weekFault(SIXTY + "x", -61);
        weekFault(SIXTY + "n1n1n1n1n1n1n1n1n1n1", -61);
        weekFault(SIXTY.substring(0, 58) + "t011", -61);
        weekFault(SIXTY.substring(0, 58) + "t0", -61);
        weekFault(SIXTY.substring(0, 58) + "p00n", -61);
        weekFault(SIXTY.substring(0, 57) + "xn1n1", -58);
        weekFault(SIXTY.substring(0, 59) + "xn1", -60);
        weekFault("x" + SIXTY, -1);
        BellForWanted x = Check.bell("50;50", "0b");
        Check.due("60", Check.week(x, SIXTY), 30);
        Check.due("thirty DAYS", x.count(1), 30);
        Check.due("as one", x.count(10), 1);
    }

    private static void weekNothing() {
        Check.says(14, "nothing is done then");
        BellForWanted x = Check.bell("50;50", "0b");
        x.wakes();
        Check.due("a fault behind ACTS", Check.week(x, "n1t01s09x"), -9);
        Check.due("no DAY", x.count(1), 0);
        Check.due("WANTS", x.count(3), 1);
        Check.due("SKILL", x.one(0, 0), 5);
        Check.row("the ROW stays", x, 1, 0);
    }

    private static void undoTwelve() {
        Check.says(15, "of 12 that are kept, the latest ones");
        BellForWanted x = Check.bell("50;50", "");
        for (int i = 1; i <= 12; i++) {
            x.mornings(1);
            Check.due("behind " + i, x.count(10), i);
        }
        x.mornings(1);
        Check.due("behind 13", x.count(10), 12);
        for (int i = 14; i <= 30; i++) {
            x.mornings(1);
        }
        Check.due("behind 30", x.count(10), 12);
        for (int left = 11; left >= 0; left--) {
            Check.due("undo()", x.undo(), left);
            Check.due("DAY", x.count(1), 18 + left);
        }
        Check.due("no more", x.undo(), -1);
        Check.due("DAY 18", x.count(1), 18);
        x.mornings(1);
        Check.due("one more behind them", x.undo(), 0);
        Check.due("DAY 18 again", x.count(1), 18);
    }

    /** A refused call must not cost the oldest of twelve. */
    private static void undoTwelveRefused() {
        Check.says(15, "of 12 that are kept, the latest ones; such as were done");
        BellForWanted x = Check.bell("50;50", "");
        for (int i = 1; i <= 13; i++) {
            x.mornings(1);
        }
        x.wishes(0, 0);
        x.pills(0, 0);
        x.learns(0, 5);
        x.leaves(0);
        x.mornings(0);
        Check.week(x, "l0");
        Check.due("still twelve", x.count(10), 12);
        for (int left = 11; left >= 0; left--) {
            Check.due("undo()", x.undo(), left);
        }
        Check.due("DAY 1", x.count(1), 1);
        Check.due("SLEPT", x.one(0, 2), 1);
    }

    private static void undoEach() {
        Check.says(15, "The latest mornings(), wishes(), pills(), learns(), leaves(), week()");
        BellForWanted x = Check.bell("50;30;70", "0bc;1a");
        int[][] before = new int[6][];
        before[0] = numbers(x);
        x.mornings(2);
        before[1] = numbers(x);
        x.wishes(2, 0);
        before[2] = numbers(x);
        x.pills(0, 3);
        before[3] = numbers(x);
        x.learns(0, 3);
        before[4] = numbers(x);
        x.leaves(0);
        before[5] = numbers(x);
        Check.week(x, "n2t12");
        for (int left = 5; left >= 0; left--) {
            Check.due("undo()", x.undo(), left);
            int[] behind = numbers(x);
            for (int i = 0; i < behind.length; i++) {
                Check.due("number " + i + " behind undo() to " + left, behind[i], before[left][i]);
            }
        }
    }

    private static void undoDone() {
        Check.says(15, "such as were done");
        BellForWanted x = Check.bell("50;50", "0b");
        x.mornings(61);
        x.wishes(0, 0);
        x.pills(0, 0);
        x.pills(2, 1);
        x.learns(0, 5);
        x.learns(0, 10);
        x.leaves(2);
        Check.week(x, "x");
        Check.due("none was done", x.count(10), 0);
        x.pills(0, 9);
        x.pills(0, 1);
        x.learns(0, 5);
        Check.due("one was", x.undo(), 0);
        Check.due("PILLS", x.count(5), 0);
    }

    private static void undoMornings() {
        Check.says(15, "mornings() of 1 and more");
        BellForWanted x = Check.bell("50;50", "0b");
        x.mornings(0);
        Check.due("of 0", x.count(10), 0);
        Check.due("undo() of 0", x.undo(), -1);
        x.mornings(1);
        x.mornings(60);
        x.mornings(0);
        Check.due("of 1 and 60", x.count(10), 2);
        Check.due("undo() of 60", x.undo(), 1);
        Check.due("DAY 1", x.count(1), 1);
    }

    private static void undoWeek() {
        Check.says(15, "week() of which one ACT was done, as one");
        BellForWanted x = Check.bell("50;50", "0b");
        Check.week(x, "");
        Check.week(x, "t00");
        Check.due("none was done", x.count(10), 0);
        Check.week(x, "n1t00");
        Check.due("one was", x.count(10), 1);
        Check.week(x, SIXTY);
        Check.due("thirty were", x.count(10), 2);
        Check.due("undo()", x.undo(), 1);
        Check.due("DAY 1", x.count(1), 1);
        Check.due("undo() again", x.undo(), 0);
        Check.due("DAY 0", x.count(1), 0);
    }

    private static void undoAsAhead() {
        Check.says(15, "all of PEOPLE, WANTS, DAY, UNMET are as ahead of it");
        BellForWanted x = Check.bell("59;30;00", "0bc;1a");
        x.mornings(2);
        int[] before = numbers(x);
        Check.week(x, "n9t21p15s09s11l1n9");
        Check.due("undo()", x.undo(), 1);
        int[] behind = numbers(x);
        for (int i = 0; i < before.length; i++) {
            Check.due("number " + i, behind[i], before[i]);
        }
    }

    private static int[] numbers(BellForWanted x) {
        int[] all = new int[8 + 7 * 3];
        for (int what = 0; what < 8; what++) {
            all[what] = x.count(what);
        }
        for (int i = 0; i < 21; i++) {
            all[8 + i] = x.one(i / 7, i % 7);
        }
        return all;
    }

    private static void undoLeft() {
        Check.says(15, "how many are left that can be. Refused: none.");
        BellForWanted x = Check.bell("50;50", "0b");
        Check.due("none", x.undo(), -1);
        x.wishes(0, 1);
        x.wishes(0, 1);
        Check.due("of two", x.undo(), 1);
        Check.due("of one", x.undo(), 0);
        Check.due("none again", x.undo(), -1);
        Check.due("WANTS", x.one(0, 4), 2);
    }

    private static void undoForgotten() {
        Check.says(15, "(people(), wants() and again() forget them, if they are not refused");
        BellForWanted people = Check.bell("50;50", "0b");
        people.wishes(0, 1);
        Check.people(people, "50");
        Check.due("people()", people.undo(), -1);
        BellForWanted wants = Check.bell("50;50", "0b");
        wants.wishes(0, 1);
        Check.wants(wants, "0b");
        Check.due("wants()", wants.undo(), -1);
        BellForWanted again = Check.bell("50;50", "0b");
        again.keep(1);
        again.wishes(0, 1);
        again.again(1);
        Check.due("again()", again.undo(), -1);
    }

    private static void undoNotForgotten() {
        Check.says(15, "those that read an empty text do not.)");
        BellForWanted x = Check.bell("50;50", "0b");
        x.wishes(0, 1);
        Check.people(x, "");
        Check.wants(x, "");
        Check.due("empty ones", x.count(10), 1);
        Check.people(x, "5");
        Check.wants(x, "0");
        x.again(0);
        x.again(2);
        Check.due("refused ones", x.count(10), 1);
        Check.rule(x, "1");
        Check.rule(x, "");
        x.sheet(2, 2, 5, 0);
        x.forget();
        x.denies();
        x.keep(0);
        Check.due("others", x.count(10), 1);
        Check.due("undo()", x.undo(), 0);
        Check.due("WANTS", x.one(0, 4), 2);
    }

    private static void keepNumbers() {
        Check.says(47, "What undo() brings back is kept under a number 0 .. 1: true.");
        BellForWanted x = Check.bell("50;50", "0b");
        Check.due("0", x.keep(0), true);
        x.mornings(1);
        Check.due("1", x.keep(1), true);
        x.mornings(1);
        x.again(0);
        Check.due("DAY of 0", x.count(1), 0);
        x.again(1);
        Check.due("DAY of 1", x.count(1), 1);
        x.mornings(5);
        Check.due("0 anew", x.keep(0), true);
        x.again(1);
        x.again(0);
        Check.due("DAY of 0 anew", x.count(1), 6);
        Check.due("without PEOPLE", new BellForWanted().keep(0), true);
    }

    private static void keepRefused() {
        Check.says(47, "Refused: others.");
        BellForWanted x = Check.bell("50;50", "0b");
        Check.due("2", x.keep(2), false);
        for (int far : FAR) {
            Check.due("keep(" + far + ")", x.keep(far), false);
        }
        Check.due("nothing kept under 0", x.again(0), false);
        Check.due("nothing kept under 1", x.again(1), false);
    }

    private static void againAsKept() {
        Check.says(48, "It is as it was kept under a number.");
        BellForWanted x = Check.bell("59;30;00", "0bc;1a");
        x.mornings(2);
        x.keep(1);
        int[] before = numbers(x);
        Check.week(x, "n9t21p15s09s11l1n9");
        Check.due("again(1)", x.again(1), true);
        int[] behind = numbers(x);
        for (int i = 0; i < before.length; i++) {
            Check.due("number " + i, behind[i], before[i]);
        }
        x.mornings(1);
        Check.due("once more", x.again(1), true);
        Check.due("DAY", x.count(1), 2);
    }

    private static void againNothing() {
        Check.says(48, "Refused: nothing kept");
        BellForWanted x = Check.bell("50;50", "0b");
        Check.due("0", x.again(0), false);
        Check.due("1", x.again(1), false);
        x.keep(0);
        Check.due("1 behind keep(0)", x.again(1), false);
        Check.due("2", x.again(2), false);
        for (int far : FAR) {
            Check.due("again(" + far + ")", x.again(far), false);
        }
        Check.due("0 behind keep(0)", x.again(0), true);
    }

    private static void againTold() {
        Check.says(48, "PEOPLE or WANTS told came since.");
        BellForWanted x = Check.bell("50;50", "0b");
        x.keep(0);
        x.keep(1);
        Check.people(x, "");
        Check.wants(x, "");
        Check.people(x, "5");
        Check.wants(x, "0a");
        Check.due("nothing came of empty and refused texts", x.again(0), true);
        Check.wants(x, "0b");
        Check.due("the same WANTS came", x.again(0), false);
        Check.due("1, too", x.again(1), false);
        x.keep(1);
        Check.due("kept since", x.again(1), true);
        Check.due("0 not", x.again(0), false);
        Check.people(x, "50");
        Check.due("PEOPLE came", x.again(1), false);
        Check.due("they are there", x.count(0), 3);
    }

    private static void countEach() {
        Check.says(49, "What 0: PEOPLE, 1: DAY, 2: UNMET, 3: WANTS of all, 4: SKILLS together, 5: PILLS together");
        BellForWanted x = Check.bell("99;99;99;99;99;99;99", ALL);
        int[] first = {7, 0, 0, 42, 63, 63, 0, 0, 0, 0, 0, 0, 0};
        for (int what = 0; what <= 12; what++) {
            Check.due("count(" + what + ")", x.count(what), first[what]);
        }
        x.mornings(60);
        x.mornings(60);
        x.vigil(1);
        for (int i = 0; i < 13; i++) {
            x.heard(0, 0);
            x.saw(0, 0, 0);
        }
        for (int i = 0; i < 21; i++) {
            x.sign(0);
        }
        // Nine MORNINGS of pills: seven are UNMET on each, SLEPT of none is left, WOKEN is 111 of each.
        int[] then = {7, 120, 63, 42, 63, 0, 0, 777, 12, 10, 2, 1, 80};
        for (int what = 0; what <= 12; what++) {
            Check.due("count(" + what + ") then", x.count(what), then[what]);
        }
        BellForWanted sleepers = Check.bell(SEVEN, "");
        sleepers.mornings(60);
        sleepers.mornings(60);
        Check.due("SLEPT together", sleepers.count(6), 693);
    }

    private static void countRefused() {
        Check.says(49, "NONE for another what.");
        BellForWanted x = Check.bell("50;50", "0b");
        Check.due("13", x.count(13), -1);
        for (int far : FAR) {
            Check.due("count(" + far + ")", x.count(far), -1);
        }
    }

    private static void rowMissing() {
        Check.says(50, "NoSuchElementException: none such.");
        BellForWanted x = Check.bell("50;50", "0b");
        Check.missing("of an empty ROW", Check.rowThrows(x, 0));
        x.serves();
        Check.due("the first", x.row(0), 1);
        Check.due("the last", x.row(1), -1);
        Check.missing("behind the last", Check.rowThrows(x, 2));
        for (int far : FAR) {
            Check.missing("row(" + far + ")", Check.rowThrows(x, far));
        }
        x.steps(1);
        Check.missing("of a ROW that is empty again", Check.rowThrows(x, 0));
        BellForWanted seven = Check.bell(SEVEN, ALL);
        Check.law(seven, "1");
        Check.due("nine numbers", seven.count(11), 9);
        Check.due("the ninth", seven.row(8), 63);
        Check.missing("a tenth", Check.rowThrows(seven, 9));
    }
}
