/** Promises 16 to 22: a test of its own for each sentence that names a boundary. */
public final class EdgesWakingTest {
    private static final int[] FAR = {Integer.MIN_VALUE, -100, -1, Integer.MAX_VALUE};
    private static final String SEVEN = "90;90;90;90;90;90;90";
    private static final String ALL = "0bcdefg;1acdefg;2abdefg;3abcefg;4abcdfg;5abcdeg;6abcdef";

    public static void main(String[] args) {
        wakesRow();
        wakesNobody();
        laterMany();
        laterOften();
        laterBehind();
        laterRefused();
        whenFirst();
        whenOften();
        whenNone();
        whenRefused();
        quietFirst();
        quietLate();
        quietOften();
        quietNone();
        runsMany();
        runsLongest();
        runsFirst();
        runsWithout();
        runsRefused();
        eachWithout();
        eachLast();
        eachNone();
        eachWhoWoke();
        busiestMany();
        busiestEqual();
        busiestNever();
        busiestWithout();
        busiestRefused();
        Check.ends();
    }

    /** 1 WAKES when he has slept on n MORNINGS: on each of n + 1 once; 0 is not wanted. */
    private static BellForWanted every(int n) {
        return Check.bell("50;50", "0b", "u=" + n);
    }

    /** 1 WAKES on the DAYS of which this is so, 0 is not wanted. */
    private static BellForWanted on(String days) {
        return Check.bell("50;50", "0b", days);
    }

    private static void wakesRow() {
        Check.says(16, "the ROW: how many, how many want some none of whom WAKES then");
        BellForWanted x = Check.bell(SEVEN, ALL);
        Check.due("all", x.wakes(), 127);
        Check.row("all", x, 7, 0);
        Check.rule(x, "0");
        Check.due("none", x.wakes(), 0);
        Check.row("none", x, 0, 7);
        BellForWanted some = Check.bell("90;00;90", "0bc;2b");
        Check.due("one", some.wakes(), 4);
        Check.row("one of whom WAKES is enough; who wants nobody does not count", some, 1, 1);
    }

    private static void wakesNobody() {
        Check.says(16, "Who WAKES on the next MORNING (bits)");
        BellForWanted none = new BellForWanted();
        Check.due("without PEOPLE", none.wakes(), 0);
        Check.row("without PEOPLE", none, 0, 0);
        BellForWanted alone = Check.bell("90", "");
        Check.due("alone", alone.wakes(), 0);
        Check.row("alone", alone, 0, 0);
    }

    private static void laterMany() {
        Check.says(17, "SLEPT of one in n MORNINGS (0 .. 99)");
        BellForWanted x = every(5);
        Check.due("now", x.later(0, 0), 0);
        Check.due("in one", x.later(0, 1), 1);
        Check.due("in 98", x.later(0, 98), 98);
        Check.due("in 99", x.later(0, 99), 99);
        x.mornings(1);
        Check.due("now, a DAY later", x.later(0, 0), 1);
        Check.due("99 at most", x.later(0, 99), 99);
        Check.due("of one who WOKE on the last", x.later(1, 5), 0);
        Check.due("of one who WAKES next", x.later(1, 4), 5);
    }

    private static void laterOften() {
        Check.says(17, "on how many of these he WAKES");
        BellForWanted x = on("1");
        x.later(1, 0);
        Check.row("of none", x, 0, 2);
        x.later(1, 1);
        Check.row("of one", x, 1, 2);
        x.later(1, 99);
        Check.row("of 99", x, 99, 2);
        for (int i = 0; i < 17; i++) {
            x.mornings(60);
        }
        x.later(1, 99);
        Check.row("of 99, when WOKEN is 999", x, 99, 2);
    }

    private static void laterBehind() {
        Check.says(17, "who WAKES on the MORNING behind these (bits)");
        BellForWanted x = every(99);
        x.later(1, 98);
        Check.row("behind 98", x, 0, 0);
        x.later(1, 99);
        Check.row("behind 99", x, 0, 2);
    }

    private static void laterRefused() {
        Check.says(17, "NONE: others.");
        BellForWanted x = on("1");
        Check.due("n 100", x.later(1, 100), -1);
        Check.due("one behind the last", x.later(2, 1), -1);
        for (int far : FAR) {
            Check.due("n " + far, x.later(1, far), -1);
            Check.due("one " + far, x.later(far, 1), -1);
        }
        Check.due("without PEOPLE", new BellForWanted().later(0, 0), -1);
    }

    private static void whenFirst() {
        Check.says(18, "On which of the next MORNINGS (1 .. 99) one WAKES first");
        Check.due("on the first", every(0).when(1), 1);
        Check.due("on the second", every(1).when(1), 2);
        Check.due("on the 99th", every(98).when(1), 99);
        BellForWanted x = every(99);
        Check.due("on the 100th", x.when(1), -2);
        x.mornings(1);
        Check.due("a DAY later on the 99th", x.when(1), 99);
    }

    private static void whenOften() {
        Check.says(18, "the ROW: on how many of these 99");
        BellForWanted x = on("1");
        x.when(1);
        Check.row("on all", x, 99);
        // The DAYS 0, 7, .., 98 are fifteen of these, the DAYS 1, 8, .., 92 fourteen, for 99 is behind them.
        BellForWanted zero = on("n=0");
        zero.when(1);
        Check.row("on DAYS of n 0", zero, 15);
        BellForWanted one = on("n=1");
        Check.due("on the second", one.when(1), 2);
        Check.row("on DAYS of n 1", one, 14);
        BellForWanted last = every(98);
        last.when(1);
        Check.row("on the last alone", last, 1);
    }

    private static void whenNone() {
        Check.says(18, "-2: on none");
        BellForWanted x = on("1");
        x.serves();
        Check.due("who is not wanted", x.when(0), -2);
        Check.row("the ROW stays", x, 1, -1);
        Check.due("alone", Check.bell("90", "").when(0), -2);
    }

    private static void whenRefused() {
        Check.says(18, "NONE: none such.");
        BellForWanted x = on("1");
        Check.due("behind the last", x.when(2), -1);
        for (int far : FAR) {
            Check.due("when(" + far + ")", x.when(far), -1);
        }
        Check.due("32 above one", x.when(33), -1);
        Check.due("without PEOPLE", new BellForWanted().when(0), -1);
    }

    private static void quietFirst() {
        Check.says(19, "On which of the next MORNINGS (1 .. 99) nobody WAKES first");
        Check.due("without PEOPLE on the first", new BellForWanted().quiet(), 1);
        Check.due("on the first", on("n>0").quiet(), 1);
        Check.due("on the second", on("1-(n=1)").quiet(), 2);
        Check.due("on the seventh", on("n<6").quiet(), 7);
    }

    private static void quietLate() {
        Check.says(19, "On which of the next MORNINGS (1 .. 99) nobody WAKES first");
        for (int morning = 98; morning <= 99; morning++) {
            BellForWanted x = quietFirstOn(morning);
            Check.due("on the " + morning + "th first", x.quiet(), morning);
            Check.row("once", x, 1);
        }
        BellForWanted x = quietFirstOn(100);
        Check.due("on the 100th first", x.quiet(), -2);
        x.mornings(1);
        Check.due("which is the 99th then", x.quiet(), 99);
    }

    /**
     * Of SKILL 9 is one who WAKES if n is not 6; the others WAKE by turns of 2, 4, 8, 3 MORNINGS (1 more than their
     * SKILL), so begun that together they leave one MORNING of n 6 out: this one, 0 weeks ahead of it. By 2 all odd
     * numbers of weeks ahead are covered, by 4 those of rest 2, by 8 those of rest 4, by 3 the one that is left, 8.
     */
    private static BellForWanted quietFirstOn(int morning) {
        int[] turn = {2, 4, 8, 3};
        int[] weeks = {1, 2, 4, 8};
        int day = 7 + Math.floorMod(7 - morning, 7);
        StringBuilder people = new StringBuilder("90");
        for (int i = 0; i < turn.length; i++) {
            int slept = turn[i] - 1 - Math.floorMod(morning - 7 * weeks[i] - 1, turn[i]);
            people.append(';').append((day - 1 - slept) % 7).append('0');
        }
        BellForWanted x = Check.bell(people.toString(), "0bcde;1a", "s=n");
        x.mornings(day);
        for (int i = 0; i < turn.length; i++) {
            x.learns(i + 1, turn[i] - 1);
        }
        Check.due("rule()", Check.rule(x, "(u=s)+(s>8)*(n<6)"), 0);
        return x;
    }

    private static void quietOften() {
        Check.says(19, "the ROW: on how many of these 99");
        BellForWanted none = new BellForWanted();
        none.quiet();
        Check.row("on all", none, 99);
        BellForWanted zero = on("n>0");
        zero.quiet();
        Check.row("on DAYS of n 0", zero, 15);
        BellForWanted one = on("1-(n=1)");
        one.quiet();
        Check.row("on DAYS of n 1", one, 14);
        BellForWanted last = every(98);
        last.quiet();
        Check.row("on all but the last", last, 98);
    }

    private static void quietNone() {
        Check.says(19, "-2: on none");
        BellForWanted x = on("1");
        x.serves();
        Check.due("somebody WAKES on each", x.quiet(), -2);
        Check.row("the ROW stays", x, 1, -1);
    }

    private static void runsMany() {
        Check.says(20, "of the next n (1 .. 99), on which one WAKES: how long");
        BellForWanted x = on("1");
        Check.due("of one", x.runs(1, 1), 1);
        Check.row("of one", x, 1);
        Check.due("of 99", x.runs(1, 99), 99);
        Check.row("of 99", x, 1);
    }

    private static void runsLongest() {
        Check.says(20, "The longest run of MORNINGS, one behind the other");
        // On DAYS of n 0, 4, 5, 6: a run of 1, then one of 4 from the fifth MORNING on.
        BellForWanted x = on("1-(n=1)-(n=2)-(n=3)");
        Check.due("of the first alone", x.runs(1, 4), 1);
        Check.row("of the first alone", x, 1);
        Check.due("as long", x.runs(1, 5), 1);
        Check.row("as long", x, 1);
        Check.due("cut by n", x.runs(1, 7), 3);
        Check.row("cut by n", x, 5);
        Check.due("over the week's end", x.runs(1, 8), 4);
        Check.row("over the week's end", x, 5);
        // n 4 is DAY 95: those of the last week are cut to 95 .. 98, which is as long.
        BellForWanted last = every(98);
        Check.due("the last alone", last.runs(1, 99), 1);
        Check.row("the last alone", last, 99);
    }

    private static void runsFirst() {
        Check.says(20, "the first MORNING (1 ..) of it (of as long ones the first");
        BellForWanted x = on("n>2");
        Check.due("fourteen of four", x.runs(1, 99), 4);
        Check.row("fourteen of four", x, 4);
        BellForWanted each = every(1);
        Check.due("each second", each.runs(1, 99), 1);
        Check.row("each second", each, 2);
    }

    private static void runsWithout() {
        Check.says(20, "0 without)");
        BellForWanted x = every(99);
        Check.due("not one", x.runs(1, 99), 0);
        Check.row("not one", x, 0);
        Check.due("who is not wanted", x.runs(0, 1), 0);
        Check.row("who is not wanted", x, 0);
    }

    private static void runsRefused() {
        Check.says(20, "NONE: others.");
        BellForWanted x = on("1");
        Check.due("n 0", x.runs(1, 0), -1);
        Check.due("n 100", x.runs(1, 100), -1);
        Check.due("one behind the last", x.runs(2, 1), -1);
        for (int far : FAR) {
            Check.due("n " + far, x.runs(1, far), -1);
            Check.due("one " + far, x.runs(far, 1), -1);
        }
        Check.due("without PEOPLE", new BellForWanted().runs(0, 1), -1);
    }

    private static void eachWithout() {
        Check.says(21, "(0: without PEOPLE .. 99)");
        BellForWanted none = new BellForWanted();
        none.wakes();
        Check.due("without PEOPLE", none.each(), 0);
        Check.row("without PEOPLE", none, 0);
        none.mornings(60);
        Check.due("without PEOPLE later", none.each(), 0);
    }

    private static void eachLast() {
        Check.says(21, "each of PEOPLE WOKE on one of them at least, first: how many");
        BellForWanted both = Check.bell("50;50", "0b;1a", "1");
        Check.due("at once", both.each(), 1);
        BellForWanted last = Check.bell("50;50", "0b;1a", "u=98");
        Check.due("behind 99", last.each(), 99);
        BellForWanted beyond = Check.bell("50;50", "0b;1a", "u=99");
        Check.due("behind 100", beyond.each(), -2);
        beyond.mornings(1);
        Check.due("a DAY later behind 99", beyond.each(), 99);
        // WOKEN of MORNINGS gone by does not count.
        BellForWanted again = Check.bell("50;50", "0b;1a", "n=0");
        again.mornings(1);
        Check.due("from now on", again.each(), 7);
    }

    private static void eachNone() {
        Check.says(21, "-2: behind none of these");
        BellForWanted x = on("1");
        x.serves();
        Check.due("one is not wanted", x.each(), -2);
        Check.row("the ROW stays", x, 1, -1);
        Check.due("alone", Check.bell("90", "").each(), -2);
    }

    private static void eachWhoWoke() {
        Check.says(21, "the ROW: who WOKE on the last of these (bits; 0 without)");
        // 0 WAKES on DAYS of n 0, 1 on DAYS of n 2, 2 on each.
        BellForWanted x = Check.bell("00;20;90", "0bc;1ac;2ab", "(n=s)+(s=9)");
        Check.due("behind three", x.each(), 3);
        Check.row("behind three", x, 6);
        BellForWanted seven = Check.bell(SEVEN, ALL);
        Check.due("all seven", seven.each(), 1);
        Check.row("all seven", seven, 127);
    }

    private static void busiestMany() {
        Check.says(22, "The one who WAKES on the most of the next n MORNINGS (1 .. 99)");
        BellForWanted x = Check.bell("51;50", "0b;1a");
        Check.due("of one", x.busiest(1), 1);
        Check.row("of one", x, 1, 1);
        Check.due("of 99", x.busiest(99), 1);
        Check.row("of 99", x, 99, 0);
        for (int i = 0; i < 17; i++) {
            x.mornings(60);
        }
        Check.due("when WOKEN is 999", x.busiest(99), 0);
        Check.row("when WOKEN is 999", x, 99, 0);
    }

    private static void busiestEqual() {
        Check.says(22, "of equal ones the first: he");
        BellForWanted x = Check.bell("00;50;50", "0c;1c;2b");
        Check.due("1 and 2", x.busiest(9), 1);
        Check.row("1 and 2", x, 9, 1);
        BellForWanted none = Check.bell(SEVEN, "");
        Check.due("all on none", none.busiest(9), 0);
        Check.row("all on none", none, 0, 127);
        BellForWanted last = Check.bell(SEVEN, "0g");
        Check.due("the last", last.busiest(9), 6);
        Check.row("the last", last, 9, 63);
    }

    private static void busiestNever() {
        Check.says(22, "the ROW: on how many, who WAKES on none of these (bits)");
        BellForWanted x = every(98);
        Check.due("of 98", x.busiest(98), 0);
        Check.row("of 98", x, 0, 3);
        Check.due("of 99", x.busiest(99), 1);
        Check.row("of 99", x, 1, 1);
    }

    private static void busiestWithout() {
        Check.says(22, "-2: there are no PEOPLE");
        Check.due("of one", new BellForWanted().busiest(1), -2);
        Check.due("of 99", new BellForWanted().busiest(99), -2);
        Check.due("alone", Check.bell("90", "").busiest(1), 0);
    }

    private static void busiestRefused() {
        Check.says(22, "NONE: another n.");
        BellForWanted x = on("1");
        Check.due("n 0", x.busiest(0), -1);
        Check.due("n 100", x.busiest(100), -1);
        for (int far : FAR) {
            Check.due("n " + far, x.busiest(far), -1);
            Check.due("n " + far + " without PEOPLE", new BellForWanted().busiest(far), -1);
        }
    }
}
