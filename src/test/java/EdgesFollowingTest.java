/** Promises 30 to 33: a test of its own for each sentence that names a boundary. */
public final class EdgesFollowingTest {
    private static final int[] FAR = {Integer.MIN_VALUE, -1, 7, 32, 100, Integer.MAX_VALUE};
    private static final String SEVEN = "90;90;90;90;90;90;90";
    private static final String ALL = "0bcdefg;1acdefg;2abdefg;3abcefg;4abcdfg;5abcdeg;6abcdef";

    public static void main(String[] args) {
        followsAlone();
        followsAll();
        followsNoneTwice();
        followsLeast();
        followsRefused();
        ringTwo();
        ringAll();
        ringLeastFirst();
        ringLeastRow();
        ringNone();
        friendsAlone();
        friendsWithout();
        friendsAll();
        friendsSets();
        wayLike();
        wayLong();
        wayLeast();
        wayNone();
        wayRefused();
        Check.ends();
    }

    private static void followsAlone() {
        Check.says(30, "how many (he counted)");
        BellForWanted x = Check.bell("90", "");
        Check.due("alone", x.follows(0), 1);
        Check.row("alone", x, 0);
        BellForWanted two = Check.bell("90;90", "0b");
        Check.due("who wants nobody", two.follows(1), 1);
        Check.row("who wants nobody", two, 1);
        Check.due("who wants one", two.follows(0), 2);
        Check.row("who wants one", two, 0, 1);
    }

    private static void followsAll() {
        Check.says(30, "The longest row of PEOPLE from one on, each wanted by the one ahead");
        BellForWanted x = Check.bell(SEVEN, ALL);
        Check.due("from 0", x.follows(0), 7);
        Check.row("from 0", x, 0, 1, 2, 3, 4, 5, 6);
        Check.due("from 6", x.follows(6), 7);
        Check.row("from 6", x, 6, 0, 1, 2, 3, 4, 5);
    }

    private static void followsNoneTwice() {
        Check.says(30, "none twice");
        BellForWanted x = Check.bell("90;90;90", "0b;1a");
        Check.due("two who want each other", x.follows(0), 2);
        Check.row("two who want each other", x, 0, 1);
    }

    private static void followsLeast() {
        Check.says(30, "(of as long ones the least row)");
        BellForWanted x = Check.bell(SEVEN, "0bc;1g;2d");
        Check.due("by 1, though 3 is below 6", x.follows(0), 3);
        Check.row("by 1, though 3 is below 6", x, 0, 1, 6);
        BellForWanted longer = Check.bell(SEVEN, "0bg;6f;5e");
        Check.due("the longer ahead of the least", longer.follows(0), 4);
        Check.row("the longer ahead of the least", longer, 0, 6, 5, 4);
    }

    private static void followsRefused() {
        Check.says(30, "NONE: none such.");
        BellForWanted x = Check.bell("90;90", "0b");
        Check.due("behind the last", x.follows(2), -1);
        for (int far : FAR) {
            Check.due("follows(" + far + ")", x.follows(far), -1);
        }
        Check.due("without PEOPLE", new BellForWanted().follows(0), -1);
    }

    private static void ringTwo() {
        Check.says(31, "(2 at least)");
        BellForWanted x = Check.bell(SEVEN, "5g;6f");
        Check.due("the last two", x.ring(), 2);
        Check.row("the last two", x, 5, 6);
        Check.due("one alone is none", Check.bell("90", "").ring(), -2);
    }

    private static void ringAll() {
        Check.says(31, "The fewest PEOPLE in a ring, each wanted by the one ahead, the first by the last");
        BellForWanted x = Check.bell(SEVEN, "0b;1c;2d;3e;4f;5g;6a");
        Check.due("seven", x.ring(), 7);
        Check.row("seven", x, 0, 1, 2, 3, 4, 5, 6);
        BellForWanted back = Check.bell(SEVEN, "0g;6f;5e;4d;3c;2b;1a");
        Check.due("seven, the other way", back.ring(), 7);
        Check.row("seven, the other way", back, 0, 6, 5, 4, 3, 2, 1);
        back.wishes(6, 5);
        Check.due("not closed", back.ring(), -2);
    }

    private static void ringLeastFirst() {
        Check.says(31, "they, the least one first");
        BellForWanted x = Check.bell(SEVEN, "6e;4f;5g");
        Check.due("three", x.ring(), 3);
        Check.row("three", x, 4, 5, 6);
        BellForWanted back = Check.bell(SEVEN, "6f;5e;4g");
        Check.due("three, the other way", back.ring(), 3);
        Check.row("three, the other way", back, 4, 6, 5);
    }

    private static void ringLeastRow() {
        Check.says(31, "(of as few the least row)");
        BellForWanted x = Check.bell(SEVEN, "0g;6a;1c;2b");
        Check.due("0 and 6 ahead of 1 and 2", x.ring(), 2);
        Check.row("0 and 6 ahead of 1 and 2", x, 0, 6);
        BellForWanted few = Check.bell(SEVEN, "0b;1c;2a;5g;6f");
        Check.due("fewer ahead of less", few.ring(), 2);
        Check.row("fewer ahead of less", few, 5, 6);
        BellForWanted same = Check.bell(SEVEN, "0cd;2f;3e;5a;4a");
        Check.due("by 2 and 5", same.ring(), 3);
        Check.row("by 2 and 5", same, 0, 2, 5);
    }

    private static void ringNone() {
        Check.says(31, "-2: there is none.");
        BellForWanted x = Check.bell(SEVEN, "0bcdefg;1cdefg;2defg;3efg;4fg;5g");
        x.enough();
        Check.due("all want later ones alone", x.ring(), -2);
        Check.row("the ROW stays", x, 64);
        Check.due("without PEOPLE", new BellForWanted().ring(), -2);
    }

    private static void friendsAlone() {
        Check.says(32, "(One alone does");
        BellForWanted x = Check.bell("90", "");
        Check.due("alone", x.friends(), 1);
        Check.row("alone", x, 1, 1);
        BellForWanted wanted = Check.bell("90;90;90", "1a;2a");
        Check.due("who is wanted, but wants nobody", wanted.friends(), 1);
        Check.row("who is wanted, but wants nobody", wanted, 1, 3);
        BellForWanted seven = Check.bell(SEVEN, "0b;1c;2d");
        Check.due("each of seven alone", seven.friends(), 1);
        Check.row("each of seven alone", seven, 1, 7);
    }

    private static void friendsWithout() {
        Check.says(32, "without PEOPLE 0, 0, 1.)");
        BellForWanted x = new BellForWanted();
        Check.due("without PEOPLE", x.friends(), 0);
        Check.row("without PEOPLE", x, 0, 1);
    }

    private static void friendsAll() {
        Check.says(32, "The most PEOPLE each of whom wants each other one");
        BellForWanted x = Check.bell(SEVEN, ALL);
        Check.due("seven", x.friends(), 7);
        Check.row("seven", x, 127, 1);
        x.wishes(6, 5);
        Check.due("one want less", x.friends(), 6);
        Check.row("one want less", x, 63, 2);
    }

    private static void friendsSets() {
        Check.says(32, "they (bits: of as many the least), how many sets of as many there are");
        BellForWanted x = Check.bell(SEVEN, "5g;6f;0d;3a;1c;2b");
        Check.due("three pairs", x.friends(), 2);
        Check.row("three pairs", x, 6, 3);
    }

    private static void wayLike() {
        Check.says(33, "(0: like ones)");
        BellForWanted x = Check.bell("90;90", "0b");
        for (int one = 0; one < 2; one++) {
            Check.due("to himself", x.way(one, one), 0);
            Check.row("to himself", x, one);
        }
        BellForWanted ring = Check.bell(SEVEN, "0b;1c;2a");
        for (int one = 0; one < 3; one++) {
            Check.due("to himself, not round the ring", ring.way(one, one), 0);
            Check.row("to himself, not round the ring", ring, one);
        }
    }

    private static void wayLong() {
        Check.says(33, "the ROW: PEOPLE in turn, both too");
        BellForWanted x = Check.bell(SEVEN, "0b;1c;2d;3e;4f;5g");
        Check.due("one", x.way(5, 6), 1);
        Check.row("one", x, 5, 6);
        Check.due("six", x.way(0, 6), 6);
        Check.row("six", x, 0, 1, 2, 3, 4, 5, 6);
        BellForWanted back = Check.bell(SEVEN, "6f;5e;4d;3c;2b;1a");
        Check.due("one, to 0", back.way(1, 0), 1);
        Check.row("one, to 0", back, 1, 0);
        Check.due("six, to 0", back.way(6, 0), 6);
        Check.row("six, to 0", back, 6, 5, 4, 3, 2, 1, 0);
    }

    private static void wayLeast() {
        Check.says(33, "(of as few the least row)");
        BellForWanted x = Check.bell(SEVEN, "0bc;1g;2d;6f;3f");
        Check.due("by 1 and 6 ahead of 2 and 3", x.way(0, 5), 3);
        Check.row("by 1 and 6 ahead of 2 and 3", x, 0, 1, 6, 5);
        BellForWanted few = Check.bell(SEVEN, "0bg;1c;2f;6f");
        Check.due("fewer ahead of less", few.way(0, 5), 2);
        Check.row("fewer ahead of less", few, 0, 6, 5);
    }

    private static void wayNone() {
        Check.says(33, "-2: there is no way");
        BellForWanted x = Check.bell(SEVEN, "0b;1c");
        x.enough();
        Check.due("against the WANTS", x.way(2, 0), -2);
        Check.due("to one nobody wants", x.way(0, 6), -2);
        Check.row("the ROW stays", x, 6);
    }

    private static void wayRefused() {
        Check.says(33, "NONE: none such.");
        BellForWanted x = Check.bell("90;90", "0b");
        Check.due("from behind the last", x.way(2, 0), -1);
        Check.due("to behind the last", x.way(0, 2), -1);
        for (int far : FAR) {
            Check.due("from " + far, x.way(far, 0), -1);
            Check.due("to " + far, x.way(0, far), -1);
            Check.due("like ones " + far, x.way(far, far), -1);
        }
        Check.due("without PEOPLE", new BellForWanted().way(0, 0), -1);
    }
}
