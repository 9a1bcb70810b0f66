/** Promises 34 to 41: a test of its own for each sentence that names a boundary. */
public final class EdgesGuessingTest {
    private static final int[] FAR = {Integer.MIN_VALUE, -1, 100, Integer.MAX_VALUE};
    private static final String SEVEN = "90;90;90;90;90;90;90";

    public static void main(String[] args) {
        heardSkill();
        heardSlept();
        heardWakes();
        heardWants();
        heardWanted();
        heardOthers();
        heardTwelve();
        forgets();
        fitsAll();
        fitsNow();
        asksMost();
        asksEach();
        asksEqual();
        asksNone();
        sawMay();
        sawOthers();
        sawTen();
        denies();
        lawsAll();
        lawsRange();
        lawsAbove();
        lawsLeast();
        lawsWithout();
        looksMost();
        looksEqual();
        looksNone();
        Check.ends();
    }

    /** Who fits, when this alone was heard. */
    private static void fits(BellForWanted x, int what, int v, int due) {
        x.forget();
        Check.due("heard(" + what + ", " + v + ")", x.heard(what, v), 1);
        Check.due("fits() of " + what + ", " + v, x.fits(), due);
        Check.row("fits() of " + what + ", " + v, x, Integer.bitCount(due));
    }

    private static void refused(int what, int v) {
        BellForWanted x = Check.bell("50;50", "0b");
        Check.due("heard(" + what + ", " + v + ")", x.heard(what, v), -1);
        Check.due("nothing was heard", x.count(8), 0);
    }

    private static void refusedFar(int what, int most) {
        refused(what, -1);
        refused(what, most + 1);
        refused(what, Integer.MIN_VALUE);
        refused(what, Integer.MAX_VALUE);
    }

    private static void heardSkill() {
        Check.says(34, "what 0: SKILL is v (0 .. 9) or more");
        BellForWanted x = Check.bell("00;80;90", "");
        fits(x, 0, 0, 7);
        fits(x, 0, 1, 6);
        fits(x, 0, 8, 6);
        fits(x, 0, 9, 4);
        refusedFar(0, 9);
    }

    private static void heardSlept() {
        Check.says(34, "1: SLEPT is v (0 .. 99) or less");
        BellForWanted x = Check.bell("50;50", "0b");
        fits(x, 1, 0, 3);
        x.mornings(60);
        x.mornings(38);
        fits(x, 1, 97, 2);
        fits(x, 1, 98, 3);
        x.mornings(2);
        fits(x, 1, 0, 2);
        fits(x, 1, 98, 2);
        fits(x, 1, 99, 3);
        refusedFar(1, 99);
    }

    private static void heardWakes() {
        Check.says(34, "2: he WAKES (1) next or not (0)");
        BellForWanted x = Check.bell("50;50", "0b");
        fits(x, 2, 1, 2);
        fits(x, 2, 0, 1);
        refusedFar(2, 1);
    }

    private static void heardWants() {
        Check.says(34, "3: he wants v (0 .. 6)");
        BellForWanted x = Check.bell(SEVEN, "0g;6a;3ag");
        fits(x, 3, 0, 72);
        fits(x, 3, 6, 9);
        fits(x, 3, 5, 0);
        refusedFar(3, 6);
    }

    private static void heardWanted() {
        Check.says(34, "4: v (0 .. 6) wants him");
        BellForWanted x = Check.bell(SEVEN, "0g;6a;3ag");
        fits(x, 4, 0, 64);
        fits(x, 4, 6, 1);
        fits(x, 4, 3, 65);
        fits(x, 4, 5, 0);
        refusedFar(4, 6);
        Check.says(34, "(v of 3, 4 need not be there.)");
        BellForWanted two = Check.bell("50;50", "0b;1a");
        fits(two, 3, 2, 0);
        fits(two, 3, 6, 0);
        fits(two, 4, 2, 0);
        fits(two, 4, 6, 0);
        Check.due("without PEOPLE", new BellForWanted().heard(3, 0), 1);
    }

    private static void heardOthers() {
        Check.says(34, "Refused: others");
        refused(5, 0);
        for (int far : FAR) {
            refused(far, 0);
        }
    }

    private static void heardTwelve() {
        Check.says(34, "Refused: others, 12.");
        BellForWanted x = Check.bell("50;50", "0b");
        for (int i = 1; i <= 12; i++) {
            Check.due("no. " + i, x.heard(0, 0), i);
        }
        Check.due("a 13th", x.heard(2, 1), -1);
        Check.due("twelve", x.count(8), 12);
        Check.due("it does not count", x.fits(), 3);
        x.forget();
        Check.due("the 12th counts", x.heard(0, 0), 1);
        for (int i = 2; i <= 11; i++) {
            x.heard(0, 0);
        }
        x.heard(2, 1);
        Check.due("by the 12th", x.fits(), 2);
    }

    private static void forgets() {
        Check.says(35, "It is forgotten: how many there were.");
        BellForWanted x = Check.bell("50;50", "0b");
        Check.due("none", x.forget(), 0);
        x.heard(0, 9);
        Check.due("one", x.forget(), 1);
        Check.due("all fit", x.fits(), 3);
        for (int i = 0; i < 13; i++) {
            x.heard(0, 9);
        }
        Check.due("twelve", x.forget(), 12);
        Check.due("none again", x.forget(), 0);
        Check.due("count(8)", x.count(8), 0);
    }

    private static void fitsAll() {
        Check.says(36, "PEOPLE (bits) who fit all that was heard now; the ROW: how many.");
        BellForWanted none = new BellForWanted();
        none.wakes();
        Check.due("without PEOPLE", none.fits(), 0);
        Check.row("without PEOPLE", none, 0);
        BellForWanted seven = Check.bell(SEVEN, "");
        Check.due("nothing was heard", seven.fits(), 127);
        Check.row("nothing was heard", seven, 7);
        seven.heard(2, 1);
        Check.due("nobody", seven.fits(), 0);
        Check.row("nobody", seven, 0);
        BellForWanted both = Check.bell("50;90;90", "0b");
        both.heard(0, 6);
        both.heard(2, 0);
        Check.due("of both one alone", both.fits(), 4);
    }

    private static void fitsNow() {
        Check.says(36, "who fit all that was heard now");
        BellForWanted x = Check.bell("50;50", "0b");
        x.heard(0, 6);
        Check.due("nobody yet", x.fits(), 0);
        x.learns(0, 6);
        Check.due("now", x.fits(), 1);
        Check.people(x, "90");
        Check.due("one who came since", x.fits(), 5);
        x.heard(3, 2);
        x.wishes(0, 2);
        Check.due("who wants him since", x.fits(), 1);
    }

    private static void asksMost() {
        Check.says(37, "10 times what (0, 2, 3, 4) and v, as they may be heard");
        BellForWanted by = Check.bell("00;00;00;00;00;00;00", "6abc");
        Check.due("the last of all: 6 wants him", by.asks(), 46);
        Check.row("the last of all: 6 wants him", by, 4);
        BellForWanted wants = Check.bell("00;00;00;00;00;00;00", "1g;2g;3g");
        Check.due("he wants 6", wants.asks(), 36);
        Check.row("he wants 6", wants, 4);
        BellForWanted skill = Check.bell("80;90", "");
        Check.due("SKILL 9", skill.asks(), 9);
        Check.row("SKILL 9", skill, 1);
        BellForWanted first = Check.bell("00;10", "");
        Check.due("SKILL 1", first.asks(), 1);
        Check.row("SKILL 1", first, 1);
    }

    private static void asksEach() {
        Check.says(37, "10 times what (0, 2, 3, 4)");
        // SLEPT alone parts them, but is not asked.
        BellForWanted x = Check.bell("50;51", "");
        x.pills(0, 1);
        Check.rule(x, "1");
        Check.week(x, "t01t10n1p11n1t01t10");
        Check.due("SLEPT of 0", x.one(0, 2), 0);
        Check.due("SLEPT of 1", x.one(1, 2), 2);
        Check.due("nothing parts them", x.asks(), 0);
        Check.row("nothing parts them", x, 2);
        BellForWanted wakes = Check.bell("50;50", "0b;1a", "1");
        wakes.pills(1, 1);
        Check.due("not to WAKE ahead of to WAKE", wakes.asks(), 20);
        Check.row("not to WAKE ahead of to WAKE", wakes, 1);
    }

    private static void asksEqual() {
        Check.says(37, "of equal ones the least");
        BellForWanted x = Check.bell("20;50", "0b;1a");
        Check.due("3, 4, 5, 20, 30, ..", x.asks(), 3);
        Check.row("3, 4, 5, 20, 30, ..", x, 1);
        BellForWanted alike = Check.bell(SEVEN, "");
        Check.due("seven are left in any case", alike.asks(), 0);
        Check.row("seven are left in any case", alike, 7);
        BellForWanted one = Check.bell("50", "");
        Check.due("one is left in any case", one.asks(), 0);
        Check.row("one is left in any case", one, 1);
        for (int i = 0; i < 12; i++) {
            x.heard(0, 1);
        }
        Check.due("though twelve were heard", x.asks(), 3);
    }

    private static void asksNone() {
        Check.says(37, "-2: none fits.");
        BellForWanted x = Check.bell("50;50", "0b");
        x.serves();
        x.heard(0, 9);
        Check.due("none fits", x.asks(), -2);
        Check.row("the ROW stays", x, 1, -1);
        Check.due("without PEOPLE", new BellForWanted().asks(), -2);
    }

    private static void sawMay() {
        Check.says(38, "one of SKILL s (0 .. 9), whom w (0 .. 6) want, woke (is 1) or not (0): how many such.");
        BellForWanted x = new BellForWanted();
        Check.due("saw(0, 0, 0)", x.saw(0, 0, 0), 1);
        Check.due("saw(9, 6, 1)", x.saw(9, 6, 1), 2);
        Check.due("saw(0, 6, 0)", x.saw(0, 6, 0), 3);
        Check.due("saw(9, 0, 1)", x.saw(9, 0, 1), 4);
    }

    private static void sawOthers() {
        Check.says(38, "Refused: others");
        BellForWanted x = new BellForWanted();
        Check.due("s 10", x.saw(10, 0, 0), -1);
        Check.due("w 7", x.saw(0, 7, 0), -1);
        Check.due("is 2", x.saw(0, 0, 2), -1);
        for (int far : FAR) {
            Check.due("s " + far, x.saw(far, 0, 0), -1);
            Check.due("w " + far, x.saw(0, far, 0), -1);
            Check.due("is " + far, x.saw(0, 0, far), -1);
        }
        Check.due("nothing was seen", x.count(9), 0);
        Check.due("all laws fit", x.laws(), 160);
    }

    private static void sawTen() {
        Check.says(38, "Refused: others, 10.");
        BellForWanted x = new BellForWanted();
        for (int i = 1; i <= 10; i++) {
            Check.due("no. " + i, x.saw(0, 0, 0), i);
        }
        Check.due("an 11th", x.saw(0, 0, 1), -1);
        Check.due("it does not count", x.laws(), 160);
        x.denies();
        for (int i = 1; i <= 9; i++) {
            x.saw(0, 0, 0);
        }
        x.saw(0, 0, 1);
        Check.due("the tenth counts", x.laws(), 0);
    }

    private static void denies() {
        Check.says(39, "It is denied: how many there were.");
        BellForWanted x = new BellForWanted();
        Check.due("none", x.denies(), 0);
        for (int i = 0; i < 11; i++) {
            x.saw(0, 0, 1);
        }
        Check.due("ten", x.denies(), 10);
        Check.due("none again", x.denies(), 0);
        Check.due("all laws fit", x.laws(), 160);
        Check.due("count(9)", x.count(9), 0);
    }

    private static void lawsAll() {
        Check.says(40, "Laws (160 of them) that fit all that was seen: how many; the ROW: the least a, b, c");
        BellForWanted x = new BellForWanted();
        Check.due("all", x.laws(), 160);
        Check.row("all", x, 0, 0, 0);
        // Neither SKILL nor WANTS: 0 is above no c.
        x.saw(0, 0, 0);
        Check.due("all still", x.laws(), 160);
    }

    private static void lawsRange() {
        Check.says(0, "one wakes, if a times SKILL and b times how many want him together are above c");
        // 3 a is not above c, but 4 a is: a 1: c 3, a 2: 6, 7, a 3: 9 and no more of them; each b.
        BellForWanted a = new BellForWanted();
        a.saw(3, 0, 0);
        a.saw(4, 0, 1);
        Check.due("by a", a.laws(), 4 * (1 + 2 + 1));
        Check.row("by a", a, 1, 0, 3);
        BellForWanted b = new BellForWanted();
        b.saw(0, 3, 0);
        b.saw(0, 4, 1);
        Check.due("by b", b.laws(), 4 * (1 + 2 + 1));
        Check.row("by b", b, 0, 1, 3);
        // 9 a and 6 b together are above each c, but for a 0, b 0 (none), a 0, b 1 (6) and a 1, b 0 (9).
        BellForWanted most = new BellForWanted();
        most.saw(9, 6, 1);
        Check.due("of the most", most.laws(), 160 - 10 - 4 - 1);
        Check.row("of the most", most, 0, 1, 0);
    }

    private static void lawsAbove() {
        Check.says(40, "that fit all that was seen");
        // As much is not above: of SKILL 1 each c below a is fine, and of one who wants him each c below b.
        BellForWanted x = new BellForWanted();
        x.saw(1, 0, 1);
        Check.due("a above c: of a 1, 2, 3 and each b", x.laws(), 4 * (1 + 2 + 3));
        Check.row("a above c", x, 1, 0, 0);
        BellForWanted y = new BellForWanted();
        y.saw(0, 1, 1);
        Check.due("b above c: of b 1, 2, 3 and each a", y.laws(), 4 * (1 + 2 + 3));
        Check.row("b above c", y, 0, 1, 0);
        BellForWanted most = new BellForWanted();
        most.saw(9, 6, 0);
        // a 0 and b 0: each c; a 0 and b 1: 6 .. 9; a 1 and b 0: 9.
        Check.due("9 a and 6 b not above c", most.laws(), 10 + 4 + 1);
        Check.row("9 a and 6 b not above c", most, 0, 0, 0);
    }

    private static void lawsLeast() {
        Check.says(40, "the ROW: the least a, b, c");
        BellForWanted x = new BellForWanted();
        x.saw(3, 0, 0);
        x.saw(4, 0, 1);
        x.saw(3, 3, 1);
        // 3 a is not above c, but 4 a is, and 3 a and 3 b are: of a 1: c 3, of 2: 6, 7, of 3: 9, of each b 1, 2, 3.
        Check.due("laws()", x.laws(), 3 * (1 + 2 + 1));
        Check.row("laws()", x, 1, 1, 3);
        BellForWanted one = new BellForWanted();
        one.saw(0, 5, 1);
        one.saw(1, 3, 0);
        one.saw(3, 1, 1);
        // 5 b and 3 a + b above c, a + 3 b not: a 3, b 2, and c 9 alone.
        Check.due("one of the most a and c", one.laws(), 1);
        Check.row("one of the most a and c", one, 3, 2, 9);
        BellForWanted most = new BellForWanted();
        most.saw(2, 2, 1);
        most.saw(0, 3, 0);
        most.saw(3, 1, 0);
        // 2 a and 2 b above c, but neither 3 b nor 3 a and b are: a 2, b 3 and c 9 alone.
        Check.due("one of the most b and c", most.laws(), 1);
        Check.row("one of the most b and c", most, 2, 3, 9);
        BellForWanted b = new BellForWanted();
        b.saw(0, 3, 1);
        b.saw(9, 2, 0);
        // a is 0, 2 b is not above c, but 3 b is: b 1: c 2, b 2: 4, 5, b 3: 6, 7, 8.
        Check.due("of b alone", b.laws(), 6);
        Check.row("of b alone", b, 0, 1, 2);
    }

    private static void lawsWithout() {
        Check.says(40, "(nothing without)");
        BellForWanted x = new BellForWanted();
        x.wakes();
        x.saw(0, 0, 1);
        Check.due("none", x.laws(), 0);
        Check.row("none", x);
    }

    private static void looks(int due, int left, int[]... seen) {
        BellForWanted x = new BellForWanted();
        for (int[] s : seen) {
            x.saw(s[0], s[1], s[2]);
        }
        Check.due("looks()", x.looks(), due);
        Check.row("looks()", x, left);
        int[] tried = looked(seen);
        Check.due("looks() by trying all", due, tried[0]);
        Check.due("the most left by trying all", left, tried[1]);
    }

    private static void looksMost() {
        Check.says(41, "10 times SKILL and how many (0 .. 6)");
        looks(96, 15, new int[] {8, 4, 0});
        looks(90, 15, new int[] {8, 6, 0});
        looks(46, 22, new int[] {1, 6, 0});
        looks(60, 56, new int[] {2, 0, 0});
    }

    /** By trying all. */
    private static int[] looked(int[][] seen) {
        int best = -1;
        int fewest = 1000;
        for (int look = 0; look < 97; look++) {
            int[] left = new int[2];
            for (int law = 0; law < 160; law++) {
                boolean fits = true;
                for (int[] s : seen) {
                    fits &= wakes(law, s[0], s[1]) == (s[2] == 1);
                }
                left[wakes(law, look / 10, look % 10) ? 1 : 0] += fits ? 1 : 0;
            }
            int most = Math.max(left[0], left[1]);
            if (look % 10 <= 6 && most < fewest) {
                fewest = most;
                best = look;
            }
        }
        return new int[] {best, fewest};
    }

    private static boolean wakes(int law, int s, int w) {
        return law / 40 * s + law / 10 % 4 * w > law % 10;
    }

    private static void looksEqual() {
        Check.says(41, "of equal ones the least");
        // Law 0, 1, 5 alone is left, whatever is looked at.
        looks(0, 1, new int[] {0, 6, 1}, new int[] {3, 5, 0});
        // Six laws of a 1, 2, 3 and b 0 that no look parts.
        looks(0, 6, new int[] {3, 0, 1}, new int[] {2, 6, 0});
        looks(50, 3, new int[] {6, 3, 1}, new int[] {4, 5, 0});
    }

    private static void looksNone() {
        Check.says(41, "-2: none fits.");
        BellForWanted x = new BellForWanted();
        x.wakes();
        x.saw(0, 0, 1);
        Check.due("none fits", x.looks(), -2);
        Check.row("the ROW stays", x, 0, 0);
    }
}
