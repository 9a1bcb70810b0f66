/** Promises 30 to 33: whom to follow, rings, friends, a way. */
public final class FollowingTest {
    private static final String SEVEN = "90;90;90;90;90;90;90";

    public static void main(String[] args) {
        follows();
        ring();
        friends();
        way();
        Check.ends();
    }

    private static void follows() {
        BellForWanted x = Check.bell("50;30;72", "0bc;1a;2b");
        Check.due("30: follows(0)", x.follows(0), 3);
        Check.row("30: follows(0)", x, 0, 2, 1);
        Check.due("30: follows(1)", x.follows(1), 3);
        Check.row("30: follows(1)", x, 1, 0, 2);
        Check.due("30: follows(2)", x.follows(2), 3);
        Check.row("30: follows(2)", x, 2, 1, 0);
        Check.due("30: none such", x.follows(3), -1);
        Check.due("30: none such", x.follows(-1), -1);
        BellForWanted alone = Check.bell("50;30", "1a");
        Check.due("30: alone", alone.follows(0), 1);
        Check.row("30: alone", alone, 0);
        BellForWanted last = Check.bell("50;30", "0b");
        Check.due("30: the last", last.follows(1), 1);
        Check.row("30: the last", last, 1);
        // 0 to 1 to 3 and 0 to 2 to 3 are as long; 0 to 2 to 4 is, too.
        BellForWanted y = Check.bell("50;50;50;50;50", "0bc;1d;2de");
        Check.due("30: of as long ones the least", y.follows(0), 3);
        Check.row("30: of as long ones the least", y, 0, 1, 3);
        BellForWanted all = Check.bell(SEVEN, "0bcdefg;1acdefg;2abdefg;3abcefg;4abcdfg;5abcdeg;6abcdef");
        Check.due("30: all seven", all.follows(4), 7);
        Check.row("30: all seven", all, 4, 0, 1, 2, 3, 5, 6);
        // From 6 on: 0 leads nowhere, 1 by 2 on to 3.
        BellForWanted z = Check.bell(SEVEN, "6ab;1c;2d");
        Check.due("30: a longer one behind", z.follows(6), 4);
        Check.row("30: a longer one behind", z, 6, 1, 2, 3);
    }

    private static void ring() {
        Check.due("31: without PEOPLE", new BellForWanted().ring(), -2);
        BellForWanted x = Check.bell("50;30;72", "0bc;1a;2b");
        Check.due("31: two", x.ring(), 2);
        Check.row("31: two", x, 0, 1);
        BellForWanted none = Check.bell("50;30;72", "0bc;1c");
        none.wakes();
        Check.due("31: none", none.ring(), -2);
        Check.row("31: the ROW stays", none, 0, 2);
        BellForWanted pairs = Check.bell(SEVEN, "0g;6a;1f;5b;2e;4c");
        Check.due("31: of as few the least", pairs.ring(), 2);
        Check.row("31: of as few the least", pairs, 0, 6);
        // 0, 1, 2 in a ring of three; 3, 5 in one of two.
        BellForWanted few = Check.bell(SEVEN, "0b;1c;2a;3f;5d");
        Check.due("31: the fewest", few.ring(), 2);
        Check.row("31: the fewest", few, 3, 5);
        // 1 to 4 to 2 to 1 and 1 to 4 to 3 to 1.
        BellForWanted least = Check.bell(SEVEN, "1e;4cd;2b;3b");
        Check.due("31: the least row", least.ring(), 3);
        Check.row("31: the least row", least, 1, 4, 2);
        BellForWanted seven = Check.bell(SEVEN, "0g;6f;5e;4d;3c;2b;1a");
        Check.due("31: seven", seven.ring(), 7);
        Check.row("31: seven", seven, 0, 6, 5, 4, 3, 2, 1);
        // 0 leads into the ring, but is not in it.
        BellForWanted into = Check.bell("90;90;90;90", "0bcd;1d;3c;2b");
        Check.due("31: not by 0", into.ring(), 3);
        Check.row("31: not by 0", into, 1, 3, 2);
    }

    private static void friends() {
        BellForWanted none = new BellForWanted();
        Check.due("32: without PEOPLE", none.friends(), 0);
        Check.row("32: without PEOPLE", none, 0, 1);
        BellForWanted alone = Check.bell("50;30;70", "0b;1c;2a");
        Check.due("32: one alone", alone.friends(), 1);
        Check.row("32: one alone", alone, 1, 3);
        BellForWanted x = Check.bell("50;30;72", "0bc;1a;2b");
        Check.due("32: two", x.friends(), 2);
        Check.row("32: two", x, 3, 1);
        BellForWanted pairs = Check.bell(SEVEN, "0g;6a;1f;5b;2e;4c");
        Check.due("32: three pairs", pairs.friends(), 2);
        Check.row("32: three pairs", pairs, 20, 3);
        BellForWanted all = Check.bell(SEVEN, "0bcdefg;1acdefg;2abdefg;3abcefg;4abcdfg;5abcdeg;6abcdef");
        Check.due("32: all seven", all.friends(), 7);
        Check.row("32: all seven", all, 127, 1);
        all.wishes(0, 6);
        Check.due("32: six", all.friends(), 6);
        Check.row("32: six", all, 63, 2);
    }

    private static void way() {
        BellForWanted x = Check.bell("50;30;72", "0bc;1a;2b");
        Check.due("33: one", x.way(0, 1), 1);
        Check.row("33: one", x, 0, 1);
        Check.due("33: two", x.way(1, 2), 2);
        Check.row("33: two", x, 1, 0, 2);
        Check.due("33: like ones", x.way(2, 2), 0);
        Check.row("33: like ones", x, 2);
        Check.due("33: none such", x.way(0, 3), -1);
        Check.due("33: none such", x.way(3, 0), -1);
        Check.due("33: none such", x.way(-1, 0), -1);
        Check.due("33: none such", x.way(0, -1), -1);
        Check.due("33: none such, like ones", x.way(3, 3), -1);
        BellForWanted y = Check.bell(SEVEN, "0bcd;1e;2e;3f;4g;5g");
        Check.due("33: the least row", y.way(0, 6), 3);
        Check.row("33: the least row", y, 0, 1, 4, 6);
        Check.due("33: no way", y.way(6, 0), -2);
        Check.row("33: the ROW stays", y, 0, 1, 4, 6);
        BellForWanted z = Check.bell(SEVEN, "0g;6f;5e;4d;3c;2b");
        Check.due("33: six", z.way(0, 1), 6);
        Check.row("33: six", z, 0, 6, 5, 4, 3, 2, 1);
    }
}
