/** Promises 9 to 15 and 47 to 50: mornings, wants, pills, weeks, undone, kept, counted. */
public final class ActsTest {
    public static void main(String[] args) {
        mornings();
        morningsLimits();
        wishes();
        pills();
        learns();
        leaves();
        week();
        weekFaults();
        weekActs();
        undo();
        undoOfTwelve();
        keep();
        count();
        rowStays();
        Check.ends();
    }

    private static void mornings() {
        BellForWanted x = Check.bell("50;30;72", "0bc;1a;2b");
        Check.due("9: mornings(1)", x.mornings(1), 3);
        Check.row("9: mornings(1)", x, 0, 2);
        Check.due("9: WOKEN", x.one(0, 3), 1);
        Check.due("9: SLEPT of one who WOKE", x.one(0, 2), 0);
        Check.due("9: SLEPT of another", x.one(2, 2), 1);
        Check.due("9: PILLS", x.one(2, 1), 1);
        Check.due("9: PILLS of 0", x.one(0, 1), 0);
        Check.due("9: DAY", x.count(1), 1);
        Check.due("9: mornings(2)", x.mornings(2), 7);
        Check.row("9: mornings(2)", x, 0, 7);
        Check.due("9: he WOKE", x.one(2, 3), 1);
        Check.due("9: SLEPT 0 again", x.one(2, 2), 0);
        Check.due("9: mornings(0)", x.mornings(0), 0);
        Check.row("9: mornings(0)", x, 0, 7);
        Check.due("9: mornings(0) is not kept", x.count(10), 2);
        Check.due("9: DAY stays", x.count(1), 3);
        String state = Check.state(x);
        Check.due("9: mornings(-1)", x.mornings(-1), -1);
        Check.due("9: mornings(61)", x.mornings(61), -1);
        Check.due("9: mornings(MIN)", x.mornings(Integer.MIN_VALUE), -1);
        Check.same("9: refused", Check.state(x), state);
        Check.row("9: refused", x, 0, 7);
        Check.due("9: mornings(60)", x.mornings(60), 7);
        Check.due("9: DAY 63", x.count(1), 63);
        unmet();
    }

    private static void unmet() {
        // 0 and 1 want 2 who can't, 2 wants nobody: two are unmet a MORNING, till pills have worn off.
        BellForWanted x = Check.bell("00;00;93", "0c;1c");
        Check.due("9: nobody", x.mornings(3), 0);
        Check.row("9: unmet", x, 6, 0);
        Check.due("9: 2 WOKE", x.mornings(1), 4);
        Check.row("9: met", x, 0, 1);
        Check.due("9: UNMET", x.count(2), 6);
        // All as it is ahead of it: by n the rule holds on every seventh DAY alone.
        BellForWanted y = Check.bell("50;50", "0b", "n=0");
        Check.due("9: DAY 0", y.mornings(1), 2);
        Check.due("9: DAY 1", y.mornings(1), 0);
        Check.due("9: DAY 2 .. 7", y.mornings(6), 2);
        // He WAKES when he has slept on two MORNINGS.
        BellForWanted z = Check.bell("50;50", "0b", "u>1");
        Check.due("9: the third", z.mornings(3), 2);
        Check.due("9: the fourth", z.mornings(1), 0);
        Check.due("9: SLEPT", z.one(1, 2), 1);
    }

    private static void morningsLimits() {
        BellForWanted x = Check.bell("90;00;00;00;00;00;00", "1a;2b;3b;4b;5b;6b;0b", "s>0");
        for (int i = 0; i < 16; i++) {
            x.mornings(60);
        }
        Check.due("9: WOKEN 960", x.one(0, 3), 960);
        Check.due("9: SLEPT is 99 at most", x.one(1, 2), 99);
        Check.due("9: UNMET", x.count(2), 5760);
        x.mornings(39);
        Check.due("9: WOKEN 999", x.one(0, 3), 999);
        x.mornings(60);
        Check.due("9: WOKEN is 999 at most", x.one(0, 3), 999);
        Check.row("9: UNMET of 60", x, 360, 999);
        for (int i = 0; i < 10; i++) {
            x.mornings(60);
        }
        Check.due("9: UNMET", x.count(2), 9954);
        x.mornings(9);
        Check.row("9: UNMET as it grew", x, 45, 999);
        Check.due("9: UNMET is 9999 at most", x.count(2), 9999);
        x.mornings(1);
        Check.row("9: no more", x, 0, 999);
        Check.due("9: who WAKES is still counted", x.busiest(5), 0);
        Check.row("22: from none on", x, 5, 126);
        Check.due("46: years without UNMET more", x.years(1, 1) >= 0, true);
        Check.due("46: as it grew", x.row(0), 0);
    }

    private static void wishes() {
        BellForWanted x = Check.bell("50;30;70", "");
        Check.due("10: wishes(0, 2)", x.wishes(0, 2), 4);
        Check.due("10: wishes(0, 1)", x.wishes(0, 1), 6);
        Check.due("10: no more", x.wishes(0, 2), 2);
        Check.due("10: of 0", x.one(0, 4), 2);
        Check.due("10: nobody", x.wishes(0, 1), 0);
        Check.due("10: each can be undone", x.count(10), 4);
        String state = Check.state(x);
        Check.due("10: like ones", x.wishes(1, 1), -1);
        Check.due("10: none such", x.wishes(3, 0), -1);
        Check.due("10: none such", x.wishes(0, 3), -1);
        Check.due("10: none such", x.wishes(-1, 0), -1);
        Check.due("10: none such", x.wishes(0, -1), -1);
        Check.same("10: refused", Check.state(x), state);
    }

    private static void pills() {
        BellForWanted x = Check.bell("50;30", "0b;1a");
        Check.due("11: pills(0, 9)", x.pills(0, 9), 9);
        Check.due("11: above 9", x.pills(0, 1), -2);
        Check.due("11: pills(1, 4)", x.pills(1, 4), 4);
        Check.due("11: pills(1, 5)", x.pills(1, 5), 9);
        Check.due("11: n 0", x.pills(0, 0), -1);
        Check.due("11: n 10", x.pills(1, 10), -1);
        Check.due("11: n -1", x.pills(1, -1), -1);
        Check.due("11: none such", x.pills(2, 1), -1);
        Check.due("11: none such", x.pills(-1, 1), -1);
        Check.due("11: n MAX", x.pills(0, Integer.MAX_VALUE), -1);
        Check.due("11: three were done", x.count(10), 3);
        Check.due("11: PILLS", x.count(5), 18);
    }

    private static void learns() {
        BellForWanted x = Check.bell("50;30", "");
        Check.due("12: learns(0, 9)", x.learns(0, 9), 15);
        Check.due("12: learns(0, 0)", x.learns(0, 0), 19);
        Check.due("12: learns(0, 1)", x.learns(0, 1), 10);
        Check.due("12: it is so", x.learns(0, 1), -2);
        Check.due("12: v 10", x.learns(0, 10), -1);
        Check.due("12: v -1", x.learns(0, -1), -1);
        Check.due("12: none such", x.learns(2, 1), -1);
        Check.due("12: none such", x.learns(-1, 1), -1);
        Check.due("12: three were done", x.count(10), 3);
        Check.due("12: SKILL", x.one(0, 0), 1);
        Check.due("12: of others", x.one(1, 0), 3);
    }

    private static void leaves() {
        BellForWanted x = Check.bell("50;30;70", "0bc;1ac;2b");
        Check.due("13: leaves(1)", x.leaves(1), 4);
        Check.due("13: one is left", x.count(3), 1);
        Check.due("13: of 0", x.one(0, 4), 4);
        Check.due("13: there were none", x.leaves(1), -2);
        Check.due("13: who is wanted alone", x.leaves(2), 1);
        Check.due("13: none such", x.leaves(3), -1);
        Check.due("13: none such", x.leaves(-1), -1);
        Check.due("13: two were done", x.count(10), 2);
        Check.due("13: he is there", x.count(0), 3);
    }

    private static void week() {
        BellForWanted x = Check.bell("50;30;72", "0bc;1a;2b");
        String before = Check.state(x);
        Check.due("14: week()", Check.week(x, "n1t12p04s10n1l1l1"), 6);
        Check.row("14: week()", x, 1, 3);
        Check.due("14: as one", x.count(10), 1);
        Check.due("14: DAY", x.count(1), 2);
        Check.due("14: THE TEXT is empty", x.count(12), 0);
        Check.due("14: undo()", x.undo(), 0);
        Check.same("14: undone", Check.state(x), before);
        Check.row("14: undo() leaves the ROW", x, 1, 3);
        Check.due("14: empty", Check.week(x, ""), 0);
        Check.row("14: empty", x, 0, 0);
        Check.due("14: nothing to undo", x.count(10), 0);
        Check.due("14: not one was done", Check.week(x, "t00n1"), 0);
        Check.row("14: not one was done", x, 1, 0);
        Check.due("14: nothing to undo", x.count(10), 0);
        Check.due("14: n0 is done", Check.week(x, "n0"), 1);
        Check.row("14: n0", x, 0, 0);
        Check.due("14: one ACT was done", x.count(10), 1);
        String thirty = "n9n9n9n9n9n9n9n9n9n9n9n9n9n9n9n9n9n9n9n9n9n9n9n9n9n9n9n9n9n9";
        Check.due("14: 60 signs", thirty.length(), 60);
        Check.due("14: thirty ACTS", Check.week(x, thirty), 30);
        Check.due("14: DAY 270", x.count(1), 270);
    }

    private static void weekFaults() {
        BellForWanted x = Check.bell("50;30;72", "0bc;1a;2b");
        String before = Check.state(x);
        x.wakes();
        String[] texts = {"x", "n", "nn", "n1;", "t", "t0", "t0x", "t01x", "p0", "p00", "px", "p010", "s1", "s1s",
            "l", "ll", "n1l", "n1n1n1w", "N1", " n1", "1", "n1t0"};
        int[] due = {-1, -2, -2, -3, -2, -3, -3, -4, -3, -3, -2, -4, -3, -3,
            -2, -2, -4, -7, -1, -1, -1, -5};
        for (int i = 0; i < texts.length; i++) {
            Check.due("14: week() of " + texts[i], Check.week(x, texts[i]), due[i]);
            Check.same("14: nothing is done of " + texts[i], Check.state(x), before);
            Check.due("14: THE TEXT is empty behind " + texts[i], x.count(12), 0);
            Check.row("14: " + texts[i], x, 2, 0);
        }
        String many = "n1n1n1n1n1n1n1n1n1n1n1n1n1n1n1n1n1n1n1n1n1n1n1n1n1n1n1n1n1n1";
        Check.due("14: more than 60", Check.week(x, many + "n1"), -61);
        Check.due("14: more than 60, the next can't", Check.week(x, many + "x"), -61);
        Check.due("14: more than 60, a fault at 59", Check.week(x, many.substring(0, 59) + "xn1"), -60);
        Check.due("14: 60 that end too early", Check.week(x, many.substring(0, 57) + "1t0"), -61);
        Check.same("14: nothing is done", Check.state(x), before);
    }

    private static void weekActs() {
        BellForWanted x = Check.bell("50;30;70", "");
        Check.due("14: t", Check.week(x, "t02"), 1);
        Check.due("14: t turns", x.one(0, 4), 4);
        Check.due("14: p", Check.week(x, "p29"), 1);
        Check.due("14: p gives", x.one(2, 1), 9);
        Check.due("14: p above 9", Check.week(x, "p21"), 0);
        Check.due("14: s", Check.week(x, "s19"), 1);
        Check.due("14: s teaches", x.one(1, 0), 9);
        Check.due("14: s as it is", Check.week(x, "s19"), 0);
        Check.due("14: n", Check.week(x, "n9"), 1);
        Check.due("14: nine MORNINGS", x.one(2, 1), 0);
        Check.row("14: UNMET then", x, 0, 9);
        Check.due("14: l", Check.week(x, "l2"), 1);
        Check.due("14: l frees", x.count(3), 0);
        Check.due("14: l without", Check.week(x, "l2"), 0);
        Check.due("14: t of none such", Check.week(x, "t09"), 0);
        Check.due("14: p of none such", Check.week(x, "p31"), 0);
        Check.due("14: s of none such", Check.week(x, "s31"), 0);
        Check.due("14: l of none such", Check.week(x, "l3"), 0);
        Check.due("14: five weeks", x.count(10), 5);
        Check.due("14: till one can't be", Check.week(x, "n1n1t00n1"), 2);
        Check.row("14: till one can't be", x, 1, 9);
        Check.due("14: DAY", x.count(1), 11);
    }

    private static void undo() {
        BellForWanted x = Check.bell("50;31;70", "0bc;1a");
        String[] states = new String[7];
        states[0] = withoutSteps(x);
        x.mornings(3);
        states[1] = withoutSteps(x);
        x.wishes(2, 0);
        states[2] = withoutSteps(x);
        x.pills(0, 3);
        states[3] = withoutSteps(x);
        x.learns(0, 3);
        states[4] = withoutSteps(x);
        x.leaves(0);
        states[5] = withoutSteps(x);
        Check.week(x, "n2t12");
        Check.due("15: six", x.count(10), 6);
        for (int left = 5; left >= 0; left--) {
            Check.due("15: undo()", x.undo(), left);
            Check.same("15: as ahead of it, " + left, withoutSteps(x), states[left]);
        }
        Check.due("15: none", x.undo(), -1);
        x.wishes(0, 1);
        x.undo();
        x.learns(1, 9);
        Check.due("15: one behind one undone", x.undo(), 0);
        Check.same("15: as it was", withoutSteps(x), states[0]);
    }

    private static String withoutSteps(BellForWanted x) {
        StringBuilder all = new StringBuilder();
        for (int what = 0; what <= 7; what++) {
            all.append(x.count(what)).append(' ');
        }
        for (int one = 0; one < x.count(0); one++) {
            for (int what = 0; what <= 5; what++) {
                all.append(what == 0 ? '|' : ',').append(x.one(one, what));
            }
        }
        return all.toString();
    }

    private static void undoOfTwelve() {
        BellForWanted x = Check.bell("00;00", "");
        for (int v = 1; v <= 9; v++) {
            x.learns(0, v);
        }
        for (int v = 1; v <= 7; v++) {
            x.learns(1, v);
        }
        Check.due("15: twelve are kept", x.count(10), 12);
        x.learns(1, 7);
        x.wishes(0, 0);
        x.pills(0, 0);
        Check.due("15: still twelve", x.count(10), 12);
        for (int left = 11; left >= 0; left--) {
            Check.due("15: undo()", x.undo(), left);
        }
        Check.due("15: no more", x.undo(), -1);
        Check.due("15: the latest ones", x.one(0, 0), 4);
        Check.due("15: all of 1", x.one(1, 0), 0);
    }

    private static void keep() {
        BellForWanted x = Check.bell("50;30;70", "0b");
        Check.due("47: keep(-1)", x.keep(-1), false);
        Check.due("47: keep(2)", x.keep(2), false);
        Check.due("48: nothing kept", x.again(0), false);
        Check.due("48: nothing kept", x.again(1), false);
        Check.due("48: again(-1)", x.again(-1), false);
        Check.due("48: again(2)", x.again(2), false);
        Check.due("47: keep(0)", x.keep(0), true);
        Check.due("48: the other one", x.again(1), false);
        String first = withoutSteps(x);
        x.mornings(4);
        x.wishes(1, 2);
        x.pills(0, 2);
        x.learns(1, 8);
        Check.due("47: keep(1)", x.keep(1), true);
        Check.due("47: what can be undone stays", x.count(10), 4);
        String second = withoutSteps(x);
        Check.due("48: again(0)", x.again(0), true);
        Check.same("48: as kept under 0", withoutSteps(x), first);
        Check.due("48: forgets what could be undone", x.undo(), -1);
        x.wishes(2, 0);
        Check.due("48: again(1)", x.again(1), true);
        Check.same("48: as kept under 1", withoutSteps(x), second);
        Check.due("48: again(0) once more", x.again(0), true);
        Check.same("48: as kept under 0", withoutSteps(x), first);
        x.wishes(2, 0);
        Check.due("48: refused", x.again(2), false);
        Check.due("48: refused ones do not forget", x.count(10), 1);
        x.keep(0);
        x.wishes(2, 1);
        x.again(0);
        Check.due("47: the latest keep", x.one(2, 4), 1);
        Check.rule(x, "w");
        x.again(0);
        Check.due("48: THE RULE stays", x.one(1, 6), 1);
        BellForWanted y = new BellForWanted();
        Check.due("47: without PEOPLE", y.keep(0), true);
        y.mornings(5);
        Check.due("48: without PEOPLE", y.again(0), true);
        Check.due("48: DAY", y.count(1), 0);
    }

    private static void count() {
        BellForWanted x = Check.bell("51;30;72", "0bc;1a;2b");
        x.mornings(2);
        x.heard(0, 1);
        x.heard(0, 2);
        x.saw(1, 1, 1);
        x.sign(0);
        // 0 has pills on the first MORNING, 1 WAKES on both.
        int[] due = {3, 2, 1, 4, 15, 0, 2, 3, 2, 1, 1, 2, 4};
        for (int what = 0; what <= 12; what++) {
            Check.due("49: count(" + what + ")", x.count(what), due[what]);
        }
        Check.due("49: count(13)", x.count(13), -1);
        Check.due("49: count(-1)", x.count(-1), -1);
        BellForWanted y = Check.bell("51;39", "");
        Check.due("49: PILLS together", y.count(5), 10);
    }

    /** The ROW stays with calls that say nothing of it and with each answer below 0. */
    private static void rowStays() {
        BellForWanted x = Check.bell("50;30;72", "0bc;1a;2b");
        x.serves();
        x.heard(0, 9);
        x.saw(5, 2, 1);
        x.saw(5, 2, 0);
        x.wishes(0, 1);
        x.wishes(0, 1);
        x.pills(1, 1);
        x.learns(1, 4);
        x.leaves(1);
        x.undo();
        x.undo();
        x.undo();
        x.keep(0);
        x.again(0);
        x.sheet(2, 3, 5, 0);
        x.again(0);
        x.one(0, 0);
        x.when(9);
        x.mornings(61);
        x.mornings(-1);
        x.quiet();
        x.busiest(0);
        x.steps(2);
        x.worth(2);
        x.way(0, 9);
        x.asks();
        x.looks();
        x.vigil(61);
        x.rests(21);
        x.odds(0, 11);
        x.years(1, 0);
        x.later(0, 100);
        x.runs(0, 0);
        Check.week(x, "x");
        Check.law(x, "x");
        Check.rule(x, "");
        Check.people(x, "");
        Check.wants(x, "");
        x.forget();
        x.denies();
        Check.row("50: all these", x, -1, 0, 1);
        Check.due("50: row(2)", x.row(2), 1);
        Check.missing("50: row(MAX)", Check.rowThrows(x, Integer.MAX_VALUE));
        Check.missing("50: row(MIN)", Check.rowThrows(x, Integer.MIN_VALUE));
    }
}
