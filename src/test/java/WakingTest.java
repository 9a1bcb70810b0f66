/** Promises 16 to 22: who wakes, when, how often; asked as if nothing were done, and nothing is. */
public final class WakingTest {
    public static void main(String[] args) {
        wakes();
        later();
        when();
        quiet();
        runs();
        each();
        busiest();
        changeNothing();
        Check.ends();
    }

    /** 0 WAKES always, 1 never, 2 from the third MORNING on. */
    private static BellForWanted three() {
        return Check.bell("50;20;72", "0bc;1a");
    }

    /** 1 WAKES when he has slept on n MORNINGS: on each of n + 1 once. */
    private static BellForWanted every(int n) {
        return Check.bell("50;50", "0b", "u=" + n);
    }

    private static void wakes() {
        BellForWanted x = three();
        Check.due("16: wakes()", x.wakes(), 1);
        Check.row("16: wakes()", x, 1, 1);
        x.mornings(2);
        Check.due("16: wakes() later", x.wakes(), 5);
        Check.row("16: wakes() later", x, 2, 0);
        x.pills(0, 1);
        Check.due("16: with PILLS", x.wakes(), 4);
        Check.row("16: with PILLS", x, 1, 1);
        x.leaves(0);
        Check.due("16: without WANTS", x.wakes(), 0);
        Check.row("16: without WANTS", x, 0, 0);
        BellForWanted y = new BellForWanted();
        Check.due("16: without PEOPLE", y.wakes(), 0);
        Check.row("16: without PEOPLE", y, 0, 0);
        // Who is not NEEDED by the first who wants him may be by another one: t is above 5 of 2 alone.
        BellForWanted z = Check.bell("10;40;90", "1a;2a", "t-5");
        Check.due("16: by some one", z.wakes(), 1);
        Check.due("16: by whom", z.one(0, 6), 4);
    }

    private static void later() {
        BellForWanted x = three();
        Check.due("17: later(2, 0)", x.later(2, 0), 0);
        Check.row("17: later(2, 0)", x, 0, 1);
        Check.due("17: later(2, 2)", x.later(2, 2), 2);
        Check.row("17: later(2, 2)", x, 0, 5);
        Check.due("17: later(2, 5)", x.later(2, 5), 0);
        Check.row("17: later(2, 5)", x, 3, 5);
        Check.due("17: later(1, 99)", x.later(1, 99), 99);
        Check.row("17: later(1, 99)", x, 0, 5);
        Check.due("17: later(0, 99)", x.later(0, 99), 0);
        Check.row("17: later(0, 99)", x, 99, 5);
        x.mornings(1);
        Check.due("17: SLEPT is 99 at most", x.later(1, 99), 99);
        Check.due("17: n 100", x.later(0, 100), -1);
        Check.due("17: n -1", x.later(0, -1), -1);
        Check.due("17: none such", x.later(3, 1), -1);
        Check.due("17: none such", x.later(-1, 1), -1);
    }

    private static void when() {
        BellForWanted x = three();
        Check.due("18: when(2)", x.when(2), 3);
        Check.row("18: when(2)", x, 97);
        Check.due("18: when(0)", x.when(0), 1);
        Check.row("18: when(0)", x, 99);
        Check.due("18: on none", x.when(1), -2);
        Check.row("18: on none", x, 99);
        Check.due("18: none such", x.when(3), -1);
        Check.due("18: none such", x.when(-1), -1);
        Check.due("18: each fifth", every(4).when(1), 5);
        BellForWanted y = every(98);
        Check.due("18: the last one", y.when(1), 99);
        Check.row("18: the last one", y, 1);
        Check.due("18: beyond", every(99).when(1), -2);
    }

    private static void quiet() {
        BellForWanted x = three();
        Check.due("19: on none", x.quiet(), -2);
        BellForWanted y = every(4);
        Check.due("19: on the first", y.quiet(), 1);
        Check.row("19: on the first", y, 80);
        y.mornings(4);
        Check.due("19: on the second", y.quiet(), 2);
        Check.row("19: on the second", y, 79);
        BellForWanted z = Check.bell("50;50", "0b", "1");
        Check.due("19: never quiet", z.quiet(), -2);
        Check.row("19: the ROW stays", z);
        BellForWanted none = new BellForWanted();
        Check.due("19: without PEOPLE", none.quiet(), 1);
        Check.row("19: without PEOPLE", none, 99);
        // n is 5 now: the rule holds on all MORNINGS but those of n 4, the 7th first.
        BellForWanted w = Check.bell("50;50", "0b", "1-(n=4)");
        w.mornings(5);
        Check.due("19: the seventh", w.quiet(), 7);
        Check.row("19: the seventh", w, 14);
    }

    private static void runs() {
        BellForWanted x = three();
        Check.due("20: runs(2, 5)", x.runs(2, 5), 3);
        Check.row("20: runs(2, 5)", x, 3);
        Check.due("20: runs(0, 99)", x.runs(0, 99), 99);
        Check.row("20: runs(0, 99)", x, 1);
        Check.due("20: runs(1, 99)", x.runs(1, 99), 0);
        Check.row("20: runs(1, 99)", x, 0);
        Check.due("20: runs(2, 1)", x.runs(2, 1), 0);
        Check.due("20: n 0", x.runs(0, 0), -1);
        Check.due("20: n 100", x.runs(0, 100), -1);
        Check.due("20: none such", x.runs(3, 1), -1);
        Check.due("20: none such", x.runs(-1, 1), -1);
        // On DAYS of n 0, 1, 4, 5, 6: runs of 2, then 5, then 5, ..
        BellForWanted y = Check.bell("50;50", "0b", "1-(n=2)-(n=3)");
        Check.due("20: of the first week", y.runs(1, 7), 3);
        Check.row("20: of the first week", y, 5);
        Check.due("20: of two weeks", y.runs(1, 14), 5);
        Check.row("20: of two weeks", y, 5);
        Check.due("20: of as long ones the first", y.runs(1, 99), 5);
        Check.row("20: of as long ones the first", y, 5);
        Check.due("20: the first two", y.runs(1, 6), 2);
        Check.row("20: the first two", y, 1);
    }

    private static void each() {
        BellForWanted none = new BellForWanted();
        Check.due("21: without PEOPLE", none.each(), 0);
        Check.row("21: without PEOPLE", none, 0);
        BellForWanted x = Check.bell("50;30;72", "0bc;1a;2b");
        Check.due("21: each()", x.each(), 3);
        Check.row("21: each()", x, 7);
        Check.due("21: behind none", three().each(), -2);
        // 0 on DAYS of n 0, 1 on those of n above 0: the last of these has 1 alone.
        BellForWanted y = Check.bell("10;20", "0b;1a", "(n=0)=(s=1)");
        Check.due("21: two", y.each(), 2);
        Check.row("21: who WOKE on the last", y, 2);
        BellForWanted z = Check.bell("50;50", "0b;1a", "u=98");
        Check.due("21: 99", z.each(), 99);
        Check.row("21: 99", z, 3);
        Check.due("21: 100 are too many", Check.bell("50;50", "0b;1a", "u=99").each(), -2);
    }

    private static void busiest() {
        BellForWanted x = Check.bell("50;30;72", "0bc;1a;2b");
        Check.due("22: of equal ones the first", x.busiest(2), 0);
        Check.row("22: of equal ones the first", x, 2, 4);
        Check.due("22: all wake", x.busiest(3), 0);
        Check.row("22: all wake", x, 3, 0);
        Check.due("22: n 0", x.busiest(0), -1);
        Check.due("22: n 100", x.busiest(100), -1);
        Check.due("22: n 99", x.busiest(99), 0);
        Check.row("22: n 99", x, 99, 0);
        Check.due("22: without PEOPLE", new BellForWanted().busiest(1), -2);
        Check.due("22: NONE comes first", new BellForWanted().busiest(0), -1);
        x.pills(0, 1);
        Check.due("22: one more often", x.busiest(5), 1);
        Check.row("22: one more often", x, 5, 0);
        BellForWanted y = Check.bell("50;50", "");
        Check.due("22: nobody", y.busiest(9), 0);
        Check.row("22: nobody", y, 0, 3);
        // WOKEN of days gone by do not count.
        BellForWanted z = Check.bell("50;50", "1a");
        z.mornings(9);
        Check.wants(z, "0b");
        z.leaves(0);
        z.wishes(0, 1);
        Check.due("22: of the next alone", z.busiest(3), 1);
        Check.row("22: of the next alone", z, 3, 1);
    }

    private static void changeNothing() {
        BellForWanted x = Check.bell("50;30;72", "0bc;1a;2b");
        x.mornings(3);
        String before = Check.state(x);
        x.wakes();
        x.later(1, 50);
        x.when(2);
        x.quiet();
        x.runs(0, 9);
        x.each();
        x.busiest(9);
        x.serves();
        x.boot();
        x.enough();
        x.steps(2);
        x.sleeps(0);
        x.worth(0);
        x.spares();
        x.follows(0);
        x.ring();
        x.friends();
        x.way(0, 2);
        x.fits();
        x.asks();
        x.laws();
        x.looks();
        x.odds(0, 3);
        x.vigil(9);
        x.rests(3);
        Check.law(x, "s");
        x.years(77, 60);
        Check.same("questions change nothing", Check.state(x), before);
        Check.due("and THE RULE stays", x.worth(0), 4);
    }
}
