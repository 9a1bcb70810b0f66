/** Promises 34 to 41: who it was, what to ask, laws of waking, where to look. */
public final class GuessingTest {
    public static void main(String[] args) {
        heard();
        forget();
        fits();
        asks();
        saw();
        laws();
        looks();
        Check.ends();
    }

    private static void heard() {
        BellForWanted x = new BellForWanted();
        int[][] may = {{0, 0}, {0, 9}, {1, 0}, {1, 99}, {2, 0}, {2, 1}, {3, 0}, {3, 6}, {4, 0}, {4, 6}, {0, 5}, {1, 50}};
        int[][] mayNot = {{0, -1}, {0, 10}, {1, -1}, {1, 100}, {2, -1}, {2, 2}, {3, -1}, {3, 7}, {4, -1}, {4, 7},
            {5, 0}, {-1, 0}, {Integer.MAX_VALUE, 0}, {0, Integer.MIN_VALUE}};
        for (int i = 0; i < may.length; i++) {
            for (int[] not : mayNot) {
                Check.due("34: heard(" + not[0] + ", " + not[1] + ")", x.heard(not[0], not[1]), -1);
            }
            Check.due("34: heard(" + may[i][0] + ", " + may[i][1] + ")", x.heard(may[i][0], may[i][1]), i + 1);
        }
        Check.due("34: twelve are all", x.heard(0, 0), -1);
        Check.due("34: count(8)", x.count(8), 12);
    }

    private static void forget() {
        BellForWanted x = Check.bell("50;30", "");
        x.heard(0, 9);
        x.heard(0, 9);
        Check.due("35: none fits", x.fits(), 0);
        Check.due("35: forget()", x.forget(), 2);
        Check.due("35: forget() again", x.forget(), 0);
        Check.due("35: count(8)", x.count(8), 0);
        Check.due("35: all fit", x.fits(), 3);
        Check.due("35: from none on", x.heard(0, 4), 1);
    }

    private static void fits() {
        one(0, 0, 15);
        one(0, 4, 5);
        one(0, 7, 4);
        one(0, 8, 0);
        one(1, 0, 6);
        one(1, 1, 14);
        one(1, 2, 15);
        one(2, 1, 6);
        one(2, 0, 9);
        one(3, 0, 2);
        one(3, 1, 5);
        one(3, 2, 1);
        one(3, 6, 0);
        one(4, 0, 6);
        one(4, 1, 1);
        one(4, 2, 2);
        one(4, 6, 0);
        BellForWanted x = four();
        x.heard(0, 4);
        x.heard(2, 1);
        Check.due("36: both", x.fits(), 4);
        Check.row("36: both", x, 1);
        x.heard(4, 2);
        Check.due("36: none", x.fits(), 0);
        Check.row("36: none", x, 0);
        BellForWanted now = Check.bell("50;30", "0b;1a");
        now.heard(2, 1);
        Check.due("36: now", now.fits(), 1);
        now.learns(1, 9);
        Check.due("36: now again", now.fits(), 3);
        Check.row("36: now again", now, 2);
    }

    /**
     * SKILL 5, 3, 7, 0; SLEPT 2, 0, 0, 1 (0 has pills, 3 was wanted on the first MORNING); 1 and 2 WAKE next;
     * 0 wants 1 and 2, 1 wants 0, 2 wants 1.
     */
    private static BellForWanted four() {
        BellForWanted x = Check.bell("50;30;70;00", "0bcd;1a;2b", "1");
        x.pills(0, 9);
        x.mornings(1);
        x.wishes(0, 3);
        x.mornings(1);
        Check.due("36: SLEPT together", x.count(6), 3);
        return x;
    }

    private static void one(int what, int v, int due) {
        BellForWanted x = four();
        Check.due("36: heard(" + what + ", " + v + ")", x.heard(what, v), 1);
        Check.due("36: fits() of " + what + ", " + v, x.fits(), due);
        Check.row("36: " + what + ", " + v, x, Integer.bitCount(due));
    }

    private static void asks() {
        Check.due("37: without PEOPLE", new BellForWanted().asks(), -2);
        BellForWanted x = Check.bell("50;30;72", "0bc;1a;2b");
        Check.due("37: SKILL 4", x.asks(), 4);
        Check.row("37: SKILL 4", x, 2);
        x.heard(0, 8);
        Check.due("37: none fits", x.asks(), -2);
        Check.row("37: the ROW stays", x, 2);
        x.forget();
        x.heard(0, 7);
        Check.due("37: one is left in any case", x.asks(), 0);
        Check.row("37: one is left in any case", x, 1);
        // Like SKILL: by who WAKES (0 does, 1 does not, he has pills), not 20 and 21 but the least.
        BellForWanted wake = Check.bell("50;51", "0b;1a");
        Check.due("37: not to WAKE", wake.asks(), 20);
        Check.row("37: not to WAKE", wake, 1);
        // All have like SKILL and sleep: 1 and 2 want 3, 0 and 3 nobody.
        BellForWanted want = Check.bell("00;00;00;00", "1d;2d");
        Check.due("37: who wants 3", want.asks(), 33);
        Check.row("37: who wants 3", want, 2);
        // 0 wants 1 and 2; the others nobody.
        BellForWanted by = Check.bell("00;00;00;00", "0bc");
        Check.due("37: whom 0 wants", by.asks(), 40);
        Check.row("37: whom 0 wants", by, 2);
        // SLEPT is not asked.
        BellForWanted slept = Check.bell("50;50", "0b;1a", "1");
        slept.pills(0, 1);
        slept.mornings(1);
        slept.wishes(0, 1);
        slept.wishes(1, 0);
        Check.due("37: nothing parts them", slept.asks(), 0);
        Check.row("37: nothing parts them", slept, 2);
    }

    private static void saw() {
        BellForWanted x = new BellForWanted();
        int[][] may = {{0, 0, 0}, {9, 0, 1}, {0, 6, 1}, {9, 6, 0}, {1, 1, 1}, {2, 2, 0}, {3, 3, 1}, {4, 4, 0},
            {5, 5, 1}, {6, 6, 0}};
        int[][] mayNot = {{-1, 0, 0}, {10, 0, 0}, {0, -1, 0}, {0, 7, 0}, {0, 0, -1}, {0, 0, 2}};
        for (int i = 0; i < may.length; i++) {
            for (int[] not : mayNot) {
                Check.due("38: saw(" + not[0] + ", " + not[1] + ", " + not[2] + ")", x.saw(not[0], not[1], not[2]), -1);
            }
            Check.due("38: saw()", x.saw(may[i][0], may[i][1], may[i][2]), i + 1);
        }
        Check.due("38: ten are all", x.saw(0, 0, 0), -1);
        Check.due("38: count(9)", x.count(9), 10);
        Check.due("39: denies()", x.denies(), 10);
        Check.due("39: denies() again", x.denies(), 0);
        Check.due("39: count(9)", x.count(9), 0);
        Check.due("39: all laws", x.laws(), 160);
        Check.due("38: from none on", x.saw(0, 0, 0), 1);
    }

    private static void laws() {
        BellForWanted x = new BellForWanted();
        Check.due("40: all", x.laws(), 160);
        Check.row("40: all", x, 0, 0, 0);
        x.saw(5, 2, 1);
        Check.due("40: 5 and 2 wake", x.laws(), 123);
        Check.row("40: 5 and 2 wake", x, 0, 1, 0);
        // 0 and 6 sleep: 6 b is not above c; with 5 a + 2 b above c.
        x.saw(0, 6, 0);
        int fitting = 0;
        for (int a = 0; a <= 3; a++) {
            for (int b = 0; b <= 3; b++) {
                for (int c = 0; c <= 9; c++) {
                    fitting += 5 * a + 2 * b > c && 6 * b <= c ? 1 : 0;
                }
            }
        }
        Check.due("40: and 0, 6 sleep", x.laws(), fitting);
        Check.row("40: and 0, 6 sleep", x, 1, 0, 0);
        x.saw(1, 0, 0);
        Check.due("40: and 1, 0 sleep", x.laws() > 0, true);
        Check.row("40: and 1, 0 sleep", x, 1, 0, 1);
        x.saw(9, 6, 0);
        Check.due("40: none", x.laws(), 0);
        Check.row("40: nothing without", x);
        // 9 a sleep: a is 0 or 1, and then c is 9.
        BellForWanted y = new BellForWanted();
        y.saw(9, 0, 0);
        y.saw(9, 1, 1);
        Check.due("40: by b", y.laws(), 1 + 2 + 3 + 3);
        Check.row("40: by b", y, 0, 1, 0);
        // Not above is not woken: 1 times 3 is not above 3.
        BellForWanted z = new BellForWanted();
        z.saw(0, 3, 1);
        z.saw(0, 2, 0);
        Check.due("40: above", z.laws(), 24);
        Check.row("40: above", z, 0, 1, 2);
    }

    private static void looks() {
        BellForWanted x = new BellForWanted();
        x.saw(0, 0, 1);
        x.wakes();
        Check.due("41: none fits", x.looks(), -2);
        Check.row("41: the ROW stays", x, 0, 0);
        x.denies();
        int[] due = looked(null);
        Check.due("41: all laws", x.looks(), due[0]);
        Check.row("41: all laws", x, due[1]);
        x.saw(3, 2, 0);
        due = looked(new int[] {3, 2, 0});
        Check.due("41: 3 and 2 sleep", x.looks(), due[0]);
        Check.row("41: 3 and 2 sleep", x, due[1]);
        BellForWanted y = new BellForWanted();
        y.saw(9, 6, 0);
        due = looked(new int[] {9, 6, 0});
        Check.due("41: 9 and 6 sleep", y.looks(), due[0]);
        Check.row("41: 9 and 6 sleep", y, due[1]);
        // b is 0, and c 2 a .. 3 a - 1: 1 + 2 + 3 laws, all of which rouse from SKILL 3 on; 0 is the least look.
        BellForWanted z = new BellForWanted();
        z.saw(3, 0, 1);
        z.saw(2, 6, 0);
        Check.due("41: six laws", z.laws(), 6);
        Check.row("41: six laws", z, 1, 0, 2);
        Check.due("41: six laws that are alike", z.looks(), 0);
        Check.row("41: six laws that are alike", z, 6);
    }

    /** By trying all, behind one sighting. */
    private static int[] looked(int[] seen) {
        int best = -1;
        int fewest = 1000;
        for (int look = 0; look < 97; look++) {
            int[] left = new int[2];
            for (int law = 0; look % 10 <= 6 && law < 160; law++) {
                int a = law / 40;
                int b = law / 10 % 4;
                int c = law % 10;
                boolean fits = seen == null || a * seen[0] + b * seen[1] > c == (seen[2] == 1);
                left[a * (look / 10) + b * (look % 10) > c ? 1 : 0] += fits ? 1 : 0;
            }
            int most = Math.max(left[0], left[1]);
            if (look % 10 <= 6 && most < fewest) {
                fewest = most;
                best = look;
            }
        }
        return new int[] {best, fewest};
    }
}
