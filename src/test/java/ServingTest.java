/** Promises 23 to 29: who serves whom, the boot, enough, steps, sleeps, worth, spares. */
public final class ServingTest {
    public static void main(String[] args) {
        serves();
        boot();
        enough();
        steps();
        sleeps();
        worth();
        spares();
        Check.ends();
    }

    private static void serves() {
        BellForWanted none = new BellForWanted();
        none.wakes();
        Check.due("23: without PEOPLE", none.serves(), 0);
        Check.row("23: without PEOPLE", none);
        BellForWanted x = Check.bell("50;30;72", "0bc;1a;2b");
        Check.due("23: the least row", x.serves(), 2);
        Check.row("23: the least row", x, -1, 0, 1);
        // Each wants all others and all wake: 0 by 1 and 1 by 0, then 2 by 3 and 3 by 2.
        BellForWanted all = Check.bell("90;90;90;90", "0bcd;1acd;2abd;3abc");
        Check.due("23: all", all.serves(), 4);
        Check.row("23: all", all, 1, 0, 3, 2);
        // 0 would take 1 first, but then 2 can't be served: he must take 3.
        BellForWanted way = Check.bell("90;90;90;90", "0bd;2b");
        Check.due("23: not the first by himself", way.serves(), 2);
        Check.row("23: not the first by himself", way, 3, -1, 1, -1);
        // Nobody wakes.
        BellForWanted sleep = Check.bell("00;00", "0b;1a");
        Check.due("23: nobody", sleep.serves(), 0);
        Check.row("23: nobody", sleep, -1, -1);
        // One who WAKES serves one who wants him, be he NEEDED by that one or not: t of 1 is not above 5.
        BellForWanted other = Check.bell("90;10;90", "1a;2a", "t-5");
        Check.due("23: one who wants him", other.serves(), 1);
        Check.row("23: one who wants him", other, -1, -1, 0);
        BellForWanted both = Check.bell("90;10;90;90", "1a;2ad;0d", "t-5");
        Check.due("23: three", both.serves(), 2);
        Check.row("23: three", both, -1, 0, 3, -1);
        // Seven who all want 0 and one another in a ring.
        BellForWanted ring = Check.bell("90;90;90;90;90;90;90", "0b;1ac;2ad;3ae;4af;5ag;6a");
        Check.due("23: seven", ring.serves(), 7);
        Check.row("23: seven", ring, 1, 2, 3, 4, 5, 6, 0);
        BellForWanted nurse = Check.bell("90;90;90;90;90;90;90", "1a;2a;3a;4a;5a;6a");
        Check.due("23: one for all", nurse.serves(), 1);
        Check.row("23: one for all", nurse, -1, -1, -1, -1, -1, -1, 0);
    }

    private static void boot() {
        Check.due("24: without PEOPLE", new BellForWanted().boot(), -2);
        BellForWanted x = Check.bell("50;30;72", "0bc;1a;2b");
        Check.due("24: two of one", x.boot(), 2);
        Check.row("24: two of one", x, 5, 2);
        Check.due("24: none", Check.bell("90;90", "0b;1a").boot(), -2);
        // 1 wants 2 who sleeps: one alone; 0 wants nobody and does not count.
        BellForWanted alone = Check.bell("90;90;00", "1c");
        Check.due("24: one alone", alone.boot(), 1);
        Check.row("24: one alone", alone, 2, 0);
        BellForWanted first = Check.bell("00;00;00", "0b;1c");
        Check.due("24: the first alone", first.boot(), 1);
        Check.row("24: the first alone", first, 1, 0);
        BellForWanted least = Check.bell("00;00;00", "2a;1c");
        Check.due("24: of as few the least", least.boot(), 1);
        Check.row("24: of as few the least", least, 2, 0);
        // 1, 2, 3 want 0 and 4: three of two; no two are too many.
        BellForWanted three = Check.bell("90;90;90;90;90", "1ae;2ae;3ae");
        Check.due("24: three of two", three.boot(), 3);
        Check.row("24: three of two", three, 14, 17);
        BellForWanted nobody = Check.bell("90;90", "");
        Check.due("24: nobody wants", nobody.boot(), -2);
        Check.row("24: nobody wants", nobody);
    }

    private static void enough() {
        BellForWanted none = new BellForWanted();
        Check.due("25: without PEOPLE", none.enough(), 0);
        Check.row("25: without PEOPLE", none, 0);
        BellForWanted x = Check.bell("50;30;72", "0bc;1a;2b");
        Check.due("25: two", x.enough(), 2);
        Check.row("25: two", x, 3);
        // 3 is wanted by all others, so he is enough; 0 and 1 serve just some.
        BellForWanted y = Check.bell("90;90;90;90", "0bd;1ad;2ad");
        Check.due("25: one", y.enough(), 1);
        Check.row("25: one", y, 8);
        // Of as few the least: 0 or 2 serve 1.
        BellForWanted z = Check.bell("90;90;90", "1ac");
        Check.due("25: the least", z.enough(), 1);
        Check.row("25: the least", z, 1);
        // 1 wants 2 who sleeps: he can't be served and does not count.
        BellForWanted w = Check.bell("90;90;00", "1c;2a");
        Check.due("25: who can be", w.enough(), 1);
        Check.row("25: who can be", w, 1);
        BellForWanted nobody = Check.bell("00;00", "0b;1a");
        Check.due("25: nobody WAKES", nobody.enough(), 0);
        Check.row("25: nobody WAKES", nobody, 0);
    }

    private static void steps() {
        BellForWanted x = Check.bell("50;30;72", "0bc;1a;2b");
        x.wakes();
        Check.due("26: he WAKES", x.steps(0), 0);
        Check.row("26: he WAKES", x);
        x.wakes();
        Check.due("26: PILLS", x.steps(2), -2);
        Check.row("26: the ROW stays", x, 2, 0);
        Check.due("26: none such", x.steps(3), -1);
        Check.due("26: none such", x.steps(-1), -1);
        // 1 of SKILL 3 needs two who want him: 0 and 2 are the least.
        BellForWanted y = Check.bell("50;30;70;70", "");
        Check.due("26: two", y.steps(1), 2);
        Check.row("26: two", y, 1, 15);
        y.wishes(3, 1);
        Check.due("26: one", y.steps(1), 1);
        Check.row("26: one", y, 1);
        Check.due("26: one for 0", y.steps(0), 1);
        Check.row("26: one for 0", y, 7);
        BellForWanted z = Check.bell("10;50;50;50", "");
        Check.due("26: by no two", z.steps(0), -2);
        // By fewer: 2 must want no more than one; WANTS of others and of himself count, too.
        BellForWanted v = Check.bell("10;50;50", "2ab", "2-v");
        Check.due("26: one is dropped or comes", v.steps(0), 1);
        Check.row("26: by 1", v, 7);
        BellForWanted b = Check.bell("10;50;50", "2a", "b");
        Check.due("26: he must want him", b.steps(0), 1);
        Check.row("26: he must want him", b, 2);
        BellForWanted w = Check.bell("10;50;50;50", "1a;2a;3a", "2-w");
        Check.due("26: two are dropped", w.steps(0), 2);
        Check.row("26: two are dropped", w, 7, 14);
        // 0 must want 1 and 2, too, that he wants three.
        BellForWanted next = Check.bell("10;50;50;50", "0d", "v>2");
        Check.due("26: two side by side", next.steps(3), 2);
        Check.row("26: two side by side", next, 1, 2);
        Check.due("26: alone", Check.bell("90", "").steps(0), -2);
    }

    private static void sleeps() {
        BellForWanted x = Check.bell("50;30;70;70", "0bd;1a;2ab;3ab");
        // 1 of SKILL 3 WAKES by 3 or 2, not by 1: two of 0, 2, 3 must drop him.
        Check.due("27: two", x.sleeps(1), 2);
        Check.row("27: two", x, 5);
        Check.due("27: all", x.sleeps(0), 3);
        Check.row("27: all", x, 14);
        Check.due("27: he sleeps", x.sleeps(2), 0);
        Check.row("27: he sleeps", x, 0);
        Check.due("27: one", x.sleeps(3), 1);
        Check.row("27: one", x, 1);
        x.pills(3, 1);
        Check.due("27: by PILLS", x.sleeps(3), 0);
        Check.row("27: by PILLS", x, 0);
        Check.due("27: none such", x.sleeps(4), -1);
        Check.due("27: none such", x.sleeps(-1), -1);
        // NEEDED by 2 alone (t above 5): she is the one.
        BellForWanted t = Check.bell("10;40;90", "1a;2a", "t-5");
        Check.due("27: the one who needs him", t.sleeps(0), 1);
        Check.row("27: the one who needs him", t, 4);
        // Dropping one makes it worse: by w below 2 he WAKES.
        BellForWanted w = Check.bell("10;40;90", "1a;2a", "w<2");
        Check.due("27: as it is", w.sleeps(0), 0);
        BellForWanted v = Check.bell("10;40;90", "1a", "w<2");
        Check.due("27: the last", v.sleeps(0), 1);
        Check.row("27: the last", v, 2);
    }

    private static void worth() {
        BellForWanted x = Check.bell("50;30;72", "0bc;1a;2b");
        Check.due("28: worth(0)", x.worth(0), 4);
        Check.row("28: worth(0)", x, 6);
        Check.due("28: worth(1)", x.worth(1), 3);
        Check.row("28: worth(1)", x, 7);
        Check.due("28: PILLS", x.worth(2), -2);
        Check.row("28: the ROW stays", x, 7);
        Check.due("28: none such", x.worth(3), -1);
        Check.due("28: none such", x.worth(-1), -1);
        BellForWanted y = Check.bell("50;30", "0b", "s=6");
        Check.due("28: 6 alone", y.worth(1), 6);
        Check.row("28: 6 alone", y, 1);
        Check.due("28: not wanted", y.worth(0), -2);
        BellForWanted z = Check.bell("50;30", "0b", "1");
        Check.due("28: all ten", z.worth(1), 0);
        Check.row("28: all ten", z, 10);
        BellForWanted w = Check.bell("50;30", "0b", "s>8");
        Check.due("28: 9", w.worth(1), 9);
        Check.row("28: 9", w, 1);
    }

    private static void spares() {
        Check.due("29: without PEOPLE", new BellForWanted().spares(), -2);
        BellForWanted x = Check.bell("50;30;72", "0bc;1a;2b");
        Check.due("29: of equal ones the first", x.spares(), 0);
        Check.row("29: of equal ones the first", x, 1, 0);
        // 1 and 2 want 3 who has pills, 0 is served by 1: without 3 none is left.
        BellForWanted y = Check.bell("90;90;90;95", "0b;1d;2d");
        Check.due("29: the one all want", y.spares(), 3);
        Check.row("29: the one all want", y, 0, 2);
        // 0 alone is unmet: he does not count then.
        BellForWanted z = Check.bell("90;90;90;95", "0d;1c;2b");
        Check.due("29: himself", z.spares(), 0);
        Check.row("29: himself", z, 0, 1);
        BellForWanted n = Check.bell("90;90", "");
        Check.due("29: without WANTS", n.spares(), 0);
        Check.row("29: without WANTS", n, 0, 0);
    }
}
