/** Promises 23 to 29: a test of its own for each sentence that names a boundary. */
public final class EdgesServingTest {
    private static final int[] FAR = {Integer.MIN_VALUE, -1, 7, 100, Integer.MAX_VALUE};
    private static final String SEVEN = "90;90;90;90;90;90;90";
    private static final String ALL = "0bcdefg;1acdefg;2abdefg;3abcefg;4abcdfg;5abcdeg;6abcdef";

    public static void main(String[] args) {
        servesOneEach();
        servesNobody();
        servesLeast();
        bootFewest();
        bootMost();
        bootWantSome();
        bootLeast();
        bootNone();
        enoughAny();
        enoughWhoCan();
        enoughLeast();
        enoughNone();
        stepsNone();
        stepsOne();
        stepsTwo();
        stepsRow();
        stepsByNoTwo();
        stepsRefused();
        sleepsNone();
        sleepsAll();
        sleepsLeast();
        sleepsRefused();
        worthLeast();
        worthNone();
        worthRefused();
        sparesFirst();
        sparesNotHim();
        sparesWithout();
        Check.ends();
    }

    private static void servesOneEach() {
        Check.says(23, "Each who WAKES next can serve one of those who want him");
        BellForWanted one = Check.bell(SEVEN, "1a;2a;3a;4a;5a;6a");
        Check.due("one for six", one.serves(), 1);
        Check.row("one for six", one, -1, -1, -1, -1, -1, -1, 0);
        BellForWanted all = Check.bell(SEVEN, ALL);
        Check.due("seven for seven", all.serves(), 7);
        Check.row("seven for seven", all, 1, 0, 3, 2, 5, 6, 4);
    }

    private static void servesNobody() {
        Check.says(23, "by PEOPLE by whom (-1: by nobody");
        BellForWanted none = new BellForWanted();
        none.wakes();
        Check.due("without PEOPLE", none.serves(), 0);
        Check.row("without PEOPLE", none);
        BellForWanted alone = Check.bell("90", "");
        Check.due("alone", alone.serves(), 0);
        Check.row("alone", alone, -1);
        BellForWanted asleep = Check.bell("91;91", "0b;1a");
        Check.due("all sleep", asleep.serves(), 0);
        Check.row("all sleep", asleep, -1, -1);
    }

    private static void servesLeast() {
        Check.says(23, "of as many the least row)");
        BellForWanted late = Check.bell("90;90;90", "0c;1c");
        Check.due("the first goes without", late.serves(), 1);
        Check.row("the first goes without", late, -1, 2, -1);
        BellForWanted low = Check.bell("90;90;90", "0bc");
        Check.due("by the lowest", low.serves(), 1);
        Check.row("by the lowest", low, 1, -1, -1);
        BellForWanted many = Check.bell("90;90;90;90", "0bd;2b");
        Check.due("as many as can be come first", many.serves(), 2);
        Check.row("as many as can be come first", many, 3, -1, 1, -1);
    }

    private static void bootFewest() {
        Check.says(24, "The boot: the fewest PEOPLE who want some, but of whom fewer WAKE next");
        BellForWanted one = Check.bell("90;00", "0b");
        Check.due("one of none", one.boot(), 1);
        Check.row("one of none", one, 1, 0);
        BellForWanted two = Check.bell("90;90;90", "0c;1c");
        Check.due("two of one", two.boot(), 2);
        Check.row("two of one", two, 3, 4);
    }

    private static void bootMost() {
        Check.says(24, "all their WANTS together, than they are");
        BellForWanted seven = Check.bell("91;90;90;90;90;90;90", ALL);
        Check.due("seven of six", seven.boot(), 7);
        Check.row("seven of six", seven, 127, 126);
        BellForWanted as = Check.bell(SEVEN, ALL);
        Check.due("as many as they are", as.boot(), -2);
    }

    private static void bootWantSome() {
        Check.says(24, "PEOPLE who want some");
        BellForWanted x = Check.bell("00;90;90", "1c;2b");
        Check.due("who wants nobody does not count", x.boot(), -2);
    }

    private static void bootLeast() {
        Check.says(24, "(bits: of as few the least)");
        BellForWanted x = Check.bell("00;00;00", "1a;2a");
        Check.due("1 ahead of 2", x.boot(), 1);
        Check.row("1 ahead of 2", x, 2, 0);
        BellForWanted few = Check.bell("90;90;90;01", "0c;1c;2d");
        Check.due("the fewest ahead of the least", few.boot(), 1);
        Check.row("the fewest ahead of the least", few, 4, 0);
    }

    private static void bootNone() {
        Check.says(24, "-2: there are none.");
        BellForWanted x = Check.bell("90;90", "0b;1a");
        x.serves();
        Check.due("all can be served", x.boot(), -2);
        Check.row("the ROW stays", x, 1, 0);
        Check.due("without PEOPLE", new BellForWanted().boot(), -2);
        Check.due("without WANTS", Check.bell(SEVEN, "").boot(), -2);
    }

    private static void enoughAny() {
        Check.says(25, "(one can serve any many)");
        BellForWanted x = Check.bell(SEVEN, "1a;2a;3a;4a;5a;6a");
        Check.due("one for six", x.enough(), 1);
        Check.row("one for six", x, 1);
        BellForWanted ring = Check.bell(SEVEN, "0b;1c;2d;3e;4f;5g;6a");
        Check.due("seven for seven", ring.enough(), 7);
        Check.row("seven for seven", ring, 127);
    }

    private static void enoughWhoCan() {
        Check.says(25, "who can be by those who WAKE");
        BellForWanted x = Check.bell("90;90;00", "0c;1a");
        Check.due("who can't be does not count", x.enough(), 1);
        Check.row("who can't be does not count", x, 1);
        BellForWanted none = Check.bell("00;00", "0b;1a");
        Check.due("nobody can be", none.enough(), 0);
        Check.row("nobody can be", none, 0);
    }

    private static void enoughLeast() {
        Check.says(25, "(bits: of as few the least)");
        BellForWanted x = Check.bell("90;90;90;90", "0bcd");
        Check.due("1, 2 or 3", x.enough(), 1);
        Check.row("1, 2 or 3", x, 2);
        BellForWanted few = Check.bell("90;90;90;90;90", "0be;1ae;2be");
        Check.due("4 alone, though 3 is less", few.enough(), 1);
        Check.row("4 alone, though 3 is less", few, 16);
    }

    private static void enoughNone() {
        Check.says(25, "The fewest PEOPLE (of those who WAKE next) who are enough");
        BellForWanted none = new BellForWanted();
        none.wakes();
        Check.due("without PEOPLE", none.enough(), 0);
        Check.row("without PEOPLE", none, 0);
        BellForWanted want = Check.bell(SEVEN, "");
        Check.due("without WANTS", want.enough(), 0);
        Check.row("without WANTS", want, 0);
    }

    private static void stepsNone() {
        Check.says(26, "The fewest WANTS (0 .. 2) to be turned (wishes()) so that one WAKES next");
        BellForWanted x = Check.bell("90;90", "0b");
        x.wakes();
        Check.due("he WAKES", x.steps(1), 0);
        Check.row("he WAKES", x);
    }

    private static void stepsOne() {
        Check.says(26, "The fewest WANTS (0 .. 2) to be turned (wishes()) so that one WAKES next");
        BellForWanted x = Check.bell("90;90", "");
        Check.due("one comes", x.steps(1), 1);
        Check.row("one comes", x, 1);
        BellForWanted drop = Check.bell("90;90;90", "0c;1c", "2-w");
        Check.due("one is dropped", drop.steps(2), 1);
        Check.row("one is dropped", drop, 2);
    }

    private static void stepsTwo() {
        Check.says(26, "The fewest WANTS (0 .. 2) to be turned (wishes()) so that one WAKES next");
        BellForWanted x = Check.bell("30;90;90", "");
        Check.due("two come", x.steps(0), 2);
        Check.row("two come", x, 7, 14);
        BellForWanted drop = Check.bell("90;90;90;90", "0d;1d;2d", "2-w");
        Check.due("two are dropped", drop.steps(3), 2);
        Check.row("two are dropped", drop, 3, 10);
    }

    private static void stepsRow() {
        Check.says(26, "each by 7 times who and whom, rising (of as few the least row)");
        BellForWanted last = Check.bell("80;80;80;80;80;80;90", "", "t-8");
        Check.due("by 6 alone", last.steps(5), 1);
        Check.row("by 6 alone", last, 47);
        BellForWanted first = Check.bell("90;80;80;80;80;80;80", "", "t-8");
        Check.due("by 0 alone", first.steps(1), 1);
        Check.row("by 0 alone", first, 1);
        // 5 must be wanted by 6, and want 6: 5 times 7 and 6, 6 times 7 and 5.
        BellForWanted both = Check.bell("80;80;80;80;80;80;90", "", "b*(t-8)");
        Check.due("by 6, whom he wants", both.steps(5), 2);
        Check.row("by 6, whom he wants", both, 41, 47);
        // 0 must want 1 and 2, too, that he wants three: two numbers side by side.
        BellForWanted next = Check.bell("10;50;50;50", "0d", "v>2");
        Check.due("side by side", next.steps(3), 2);
        Check.row("side by side", next, 1, 2);
    }

    private static void stepsByNoTwo() {
        Check.says(26, "-2: by no two");
        BellForWanted three = Check.bell("20;90;90;90", "");
        three.serves();
        Check.due("by three", three.steps(0), -2);
        Check.row("the ROW stays", three, -1, -1, -1, -1);
        three.wishes(3, 0);
        Check.due("by two", three.steps(0), 2);
        Check.due("with a pill", Check.bell("91;90", "1a").steps(0), -2);
        Check.due("alone", Check.bell("90", "").steps(0), -2);
    }

    private static void stepsRefused() {
        Check.says(26, "NONE: none such.");
        BellForWanted x = Check.bell("90;90", "");
        Check.due("behind the last", x.steps(2), -1);
        for (int far : FAR) {
            Check.due("steps(" + far + ")", x.steps(far), -1);
        }
        Check.due("without PEOPLE", new BellForWanted().steps(0), -1);
    }

    private static void sleepsNone() {
        Check.says(27, "so that he does not WAKE next (others as they are): how many");
        BellForWanted x = Check.bell("91;90", "1a");
        Check.due("with a pill", x.sleeps(0), 0);
        Check.row("with a pill", x, 0);
        Check.due("who is not wanted", x.sleeps(1), 0);
        Check.row("who is not wanted", x, 0);
        // v of those who go on wanting him is as it is, w is not.
        BellForWanted w = Check.bell("50;90;90", "1a;2a", "w-1");
        Check.due("one of two", w.sleeps(0), 1);
        Check.row("one of two", w, 2);
    }

    private static void sleepsAll() {
        Check.says(27, "The fewest WANTS to be dropped, of those who want one");
        BellForWanted x = Check.bell(SEVEN, ALL);
        Check.due("all six of 6", x.sleeps(6), 6);
        Check.row("all six of 6", x, 63);
        Check.due("all six of 0", x.sleeps(0), 6);
        Check.row("all six of 0", x, 126);
        BellForWanted one = Check.bell("90;90", "0b");
        Check.due("the only one", one.sleeps(1), 1);
        Check.row("the only one", one, 1);
    }

    private static void sleepsLeast() {
        Check.says(27, "who drops him (bits: of as few the least)");
        BellForWanted x = Check.bell("30;90;90;90", "1a;2a;3a");
        Check.due("two of three", x.sleeps(0), 2);
        Check.row("two of three", x, 6);
        BellForWanted few = Check.bell("30;10;10;90", "1a;2a;3a", "t-5");
        Check.due("3 alone, though 1 and 2 are less", few.sleeps(0), 1);
        Check.row("3 alone, though 1 and 2 are less", few, 8);
    }

    private static void sleepsRefused() {
        Check.says(27, "NONE: none such.");
        BellForWanted x = Check.bell("90;90", "0b");
        Check.due("behind the last", x.sleeps(2), -1);
        for (int far : FAR) {
            Check.due("sleeps(" + far + ")", x.sleeps(far), -1);
        }
        Check.due("without PEOPLE", new BellForWanted().sleeps(0), -1);
    }

    private static void worthLeast() {
        Check.says(28, "The least SKILL (0 .. 9) by which one WAKES next, all else as it is");
        BellForWanted all = Check.bell("50;50", "0b", "1");
        Check.due("0", all.worth(1), 0);
        Check.row("0", all, 10);
        BellForWanted last = Check.bell("50;50", "0b", "s-8");
        Check.due("9", last.worth(1), 9);
        Check.row("9", last, 1);
        BellForWanted first = Check.bell("50;50", "0b", "s=0");
        Check.due("0 alone", first.worth(1), 0);
        Check.row("0 alone", first, 1);
        BellForWanted hole = Check.bell("50;50", "0b", "(s=2)+(s=7)");
        Check.due("2 and 7", hole.worth(1), 2);
        Check.row("2 and 7", hole, 2);
    }

    private static void worthNone() {
        Check.says(28, "-2: by none");
        BellForWanted x = Check.bell("50;51", "0b", "1");
        x.serves();
        Check.due("with a pill", x.worth(1), -2);
        Check.due("who is not wanted", x.worth(0), -2);
        Check.row("the ROW stays", x, -1, -1);
        Check.due("by 10 alone", Check.bell("50;50", "0b", "s-9").worth(1), -2);
    }

    private static void worthRefused() {
        Check.says(28, "NONE: none such.");
        BellForWanted x = Check.bell("90;90", "0b");
        Check.due("behind the last", x.worth(2), -1);
        for (int far : FAR) {
            Check.due("worth(" + far + ")", x.worth(far), -1);
        }
        Check.due("without PEOPLE", new BellForWanted().worth(0), -1);
    }

    private static void sparesFirst() {
        Check.says(29, "of equal ones the first: he; the ROW: how many, how many as it is.");
        BellForWanted none = Check.bell(SEVEN, "");
        Check.due("without WANTS", none.spares(), 0);
        Check.row("without WANTS", none, 0, 0);
        BellForWanted last = Check.bell("90;90;90;90;90;90;91", "0g;1g;2g;3g;4g;5g");
        Check.due("the last, whom six want", last.spares(), 6);
        Check.row("the last, whom six want", last, 0, 6);
        BellForWanted most = Check.bell(SEVEN, ALL, "0");
        Check.due("six are left in any case", most.spares(), 0);
        Check.row("six are left in any case", most, 6, 7);
        BellForWanted two = Check.bell("90;90;91", "0c;1c");
        two.wishes(1, 2);
        Check.due("0 or 2", two.spares(), 0);
        Check.row("0 or 2", two, 0, 1);
        Check.due("alone", Check.bell("90", "").spares(), 0);
    }

    private static void sparesNotHim() {
        Check.says(29, "(he does not count then)");
        // 2 alone is not served, for 3 has a pill: 2 or 3 leaves, and no one is left.
        BellForWanted x = Check.bell("90;90;90;91", "0b;1a;2d");
        Check.due("2 himself", x.spares(), 2);
        Check.row("2 himself", x, 0, 1);
        // Without 0 the one who wanted him alone wants nobody: he is not unserved either.
        BellForWanted ring = Check.bell("90;90;90", "0b;1c;2a");
        Check.due("of a ring the first", ring.spares(), 0);
        Check.row("of a ring the first", ring, 0, 0);
    }

    private static void sparesWithout() {
        Check.says(29, "-2: there are no PEOPLE.");
        BellForWanted x = new BellForWanted();
        x.wakes();
        Check.due("without PEOPLE", x.spares(), -2);
        Check.row("the ROW stays", x, 0, 0);
    }
}
