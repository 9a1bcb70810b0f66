/** Promises 42 to 46: a test of its own for each sentence that names a boundary. */
public final class EdgesOddsTest {
    private static final int[] FAR = {Integer.MIN_VALUE, -1, 100, Integer.MAX_VALUE};
    private static final String SEVEN = "90;90;90;90;90;90;90";
    private static final String ALL = "0bcdefg;1acdefg;2abdefg;3abcefg;4abcdfg;5abcdeg;6abcdef";
    private static final String FORTY = "s+1+1+1+1+1+1+1+1+1+1+1+1+1+1+1+1+1+1-12";
    /** The least number by which the first one wins of 0, 1, .., 60 hours; 0: by none. */
    private static final int[] TURNS = {0, 1, 2, 0, 1, 0, 1, 4, 8, 0, 1, 8, 0, 1, 0, 1, 16, 0, 1, 16, 0, 1, 0, 1, 0, 1, 0, 1,
        16, 0, 1, 0, 1, 0, 1, 32, 0, 1, 0, 1, 0, 1, 0, 1, 32, 0, 1, 0, 1, 32, 0, 1, 32, 0, 1, 0, 1, 0, 1, 0, 1};

    public static void main(String[] args) {
        oddsTenths();
        oddsLowest();
        oddsAsNow();
        oddsNever();
        oddsRefused();
        vigilHours();
        vigilEach();
        vigilWithout();
        vigilRefused();
        restsHours();
        restsTogether();
        restsEach();
        restsRefused();
        lawEmpty();
        lawBelow();
        lawNeeded();
        lawFault();
        yearsOne();
        yearsIfItCan();
        yearsSkill();
        yearsMany();
        yearsUnmet();
        yearsWithout();
        yearsSeeds();
        yearsRefused();
        Check.ends();
    }

    private static void odds(BellForWanted x, int one, int p, long upper, long lower) {
        Check.due("odds(" + one + ", " + p + ")", x.odds(one, p), 0);
        Check.row("odds(" + one + ", " + p + ")", x, upper, lower);
    }

    private static void oddsTenths() {
        Check.says(42, "Each who wants one does so on the next MORNING by p tenths (0 .. 10), each by itself");
        BellForWanted x = Check.bell("50;50;50", "0b;1a;2a");
        odds(x, 1, 0, 0, 1);
        odds(x, 1, 1, 1, 10);
        odds(x, 1, 9, 9, 10);
        odds(x, 1, 10, 1, 1);
        odds(x, 0, 0, 0, 1);
        odds(x, 0, 1, 19, 100);
        odds(x, 0, 9, 99, 100);
        odds(x, 0, 10, 1, 1);
        BellForWanted six = Check.bell(SEVEN, ALL);
        odds(six, 0, 9, 999999, 1000000);
        odds(six, 6, 5, 63, 64);
        odds(six, 3, 1, 468559, 1000000);
    }

    private static void oddsLowest() {
        Check.says(42, "how likely he WAKES: 0; the ROW: the fraction");
        BellForWanted x = Check.bell("50;50;50", "0b;1a;2a");
        odds(x, 1, 5, 1, 2);
        odds(x, 1, 4, 2, 5);
        odds(x, 0, 5, 3, 4);
        odds(x, 0, 2, 9, 25);
    }

    private static void oddsAsNow() {
        Check.says(42, "(v, b are as now; w counts those who do)");
        // Both must want him, that w is 2.
        odds(Check.bell("30;50;50", "1a;2a"), 0, 5, 1, 4);
        // Just one of both must.
        odds(Check.bell("30;50;50", "1a;2a", "w=1"), 0, 5, 1, 2);
        odds(Check.bell("30;50;50", "1a;2a", "w=1"), 0, 10, 0, 1);
        // v of 1 is 2, though he may not want 0; b of 1 is 1, for 0 wants him.
        odds(Check.bell("30;50;50", "1ac;0b", "(v=2)*b"), 0, 5, 1, 2);
    }

    private static void oddsNever() {
        Check.says(0, "Fractions are told in lowest terms, upper and lower number (0 by 1)");
        odds(Check.bell("91;50", "1a"), 0, 10, 0, 1);
        odds(Check.bell("90;50", "0b"), 0, 10, 0, 1);
        odds(Check.bell("90", ""), 0, 5, 0, 1);
        odds(Check.bell(SEVEN, ALL, "0"), 0, 5, 0, 1);
    }

    private static void oddsRefused() {
        Check.says(42, "NONE: others.");
        BellForWanted x = Check.bell("50;50", "0b");
        Check.due("p 11", x.odds(1, 11), -1);
        Check.due("one behind the last", x.odds(2, 5), -1);
        for (int far : FAR) {
            Check.due("p " + far, x.odds(1, far), -1);
            Check.due("one " + far, x.odds(far, 5), -1);
        }
        Check.due("without PEOPLE", new BellForWanted().odds(0, 5), -1);
    }

    private static void vigilHours() {
        Check.says(43, "Of n (0 .. 60) hours that are left");
        BellForWanted x = new BellForWanted();
        Check.due("none", x.vigil(0), 0);
        Check.due("one", x.vigil(1), 1);
        Check.row("one", x, 1);
        Check.due("59", x.vigil(59), 0);
        Check.due("60", x.vigil(60), 1);
        Check.row("60", x, 1);
    }

    private static void vigilEach() {
        Check.says(43, "1 or the greatest of 1, 2, 4, 8, 16, 32 that is not more than are left");
        Check.due("61 numbers", TURNS.length, 61);
        BellForWanted x = new BellForWanted();
        for (int n = 0; n <= 60; n++) {
            Check.due("vigil(" + n + ")", x.vigil(n), TURNS[n] > 0 ? 1 : 0);
            Check.due("numbers behind vigil(" + n + ")", x.count(11), TURNS[n] > 0 ? 1 : 0);
            if (TURNS[n] > 0) {
                Check.row("vigil(" + n + ")", x, TURNS[n]);
            }
        }
    }

    private static void vigilWithout() {
        Check.says(43, "(nothing without)");
        BellForWanted x = new BellForWanted();
        x.wakes();
        Check.due("of none", x.vigil(0), 0);
        Check.row("of none", x);
        x.wakes();
        Check.due("of three", x.vigil(3), 0);
        Check.row("of three", x);
    }

    private static void vigilRefused() {
        Check.says(43, "NONE: another n.");
        BellForWanted x = new BellForWanted();
        Check.due("61", x.vigil(61), -1);
        Check.due("64", x.vigil(64), -1);
        for (int far : FAR) {
            Check.due("vigil(" + far + ")", x.vigil(far), -1);
        }
    }

    private static void restsHours() {
        Check.says(44, "Two lie in x and y (0 .. 9) hours");
        BellForWanted x = new BellForWanted();
        Check.due("v 0", x.rests(0), 1);
        Check.row("as long as can be", x, 9, 9);
        Check.due("v 20", x.rests(20), 10);
        Check.row("not at all", x, 0, 0);
    }

    private static void restsTogether() {
        Check.says(44, "both pay 1 for each hour that both lie in together above 8");
        // Of 4 and 4 one by 5 more has 10 less 5: v 5 holds him. Of 3 and 3 by 6 more he has 12 less 4: v 8 does.
        BellForWanted x = new BellForWanted();
        Check.due("v 4", x.rests(4), 5);
        Check.row("v 4", x, 5, 5);
        Check.due("v 5", x.rests(5), 6);
        Check.row("v 5", x, 4, 4);
        Check.due("v 7", x.rests(7), 6);
        Check.due("v 8", x.rests(8), 7);
        Check.row("v 8", x, 3, 3);
    }

    private static void restsEach() {
        Check.says(44, "(both, if like) gets v (0 .. 20) for being up");
        // Like ones alone hold: those of x and more for whom another number gives no more than v.
        int[] pairs = {1, 2, 3, 4, 5, 6, 6, 6, 7, 7, 7, 8, 8, 8, 9, 9, 9, 10, 10, 10, 10};
        BellForWanted x = new BellForWanted();
        for (int v = 0; v <= 20; v++) {
            Check.due("rests(" + v + ")", x.rests(v), pairs[v]);
            Check.row("rests(" + v + ")", x, 10 - pairs[v], 10 - pairs[v]);
        }
    }

    private static void restsRefused() {
        Check.says(44, "NONE: another v.");
        BellForWanted x = new BellForWanted();
        Check.due("21", x.rests(21), -1);
        for (int far : FAR) {
            Check.due("rests(" + far + ")", x.rests(far), -1);
        }
    }

    private static void lawEmpty() {
        Check.says(45, "(an empty one: none)");
        BellForWanted x = Check.bell("50;50", "0b", "0");
        Check.due("s-4+w", Check.law(x, ""), 1);
        Check.row("s-4+w", x, 1, 0, 0, 1);
        Check.due("THE RULE stays", x.wakes(), 0);
        BellForWanted none = new BellForWanted();
        Check.due("without PEOPLE", none.law(), 0);
        Check.row("without PEOPLE", none, 0, 0);
    }

    private static void lawBelow() {
        Check.says(45, "how many WAKE next by it, less by THE RULE (below 0, too)");
        BellForWanted x = Check.bell(SEVEN, ALL);
        Check.due("seven less", Check.law(x, "0"), -7);
        Check.row("seven less", x, 0, 7, 0, 0, 0, 0, 0, 0, 0);
        Check.rule(x, "0");
        Check.due("seven more", Check.law(x, "1"), 7);
        Check.row("seven more", x, 7, 0, 126, 125, 123, 119, 111, 95, 63);
        BellForWanted one = Check.bell("50;50", "0b");
        one.rests(0);
        Check.due("one less, which is no refusal", Check.law(one, "0"), -1);
        Check.row("one less, which is no refusal", one, 0, 1, 0, 0);
        BellForWanted two = Check.bell("50;50", "0b;1a");
        Check.due("two less, which is no fault", Check.law(two, "0"), -2);
        Check.row("two less, which is no fault", two, 0, 2, 0, 0);
    }

    private static void lawNeeded() {
        Check.says(45, "then by PEOPLE by whom he is NEEDED by it (bits)");
        BellForWanted x = Check.bell("51;50;50", "1a;2a;0c");
        Check.due("PILLS aside", Check.law(x, "1"), 0);
        Check.row("PILLS aside", x, 1, 1, 6, 0, 1);
    }

    private static void lawFault() {
        Check.says(45, "-10000 - p: the sign at p can't stand there (as rule())");
        BellForWanted x = Check.bell("50;50", "0b");
        x.serves();
        Check.due("at 0", Check.law(x, "x"), -10000);
        Check.due("at 1", Check.law(x, "1x"), -10001);
        Check.due("its end", Check.law(x, "1+"), -10002);
        Check.due("at 39", Check.law(x, FORTY.substring(0, 39) + "x"), -10039);
        Check.due("40", Check.law(x, FORTY + "1"), -10040);
        Check.due("40, the next can't stand", Check.law(x, FORTY + "x"), -10040);
        Check.row("the ROW stays", x, 1, -1);
        Check.due("40 signs", Check.law(x, FORTY), 0);
    }

    private static void years(BellForWanted x, int seed, int n, int woke, long unmet, long next) {
        Check.due("years(" + seed + ", " + n + ")", x.years(seed, n), woke);
        Check.row("years(" + seed + ", " + n + ")", x, unmet, next);
    }

    private static void yearsOne() {
        Check.says(46, "n times (1 .. 60): a DRAW of 4 tells: 0, 1: A MORNING");
        // The first DRAW of seed 0 is 0, of seed -1 it is 48697.
        years(Check.bell("50;50", "0b"), 0, 1, 1, 0, 2);
        years(Check.bell("50;50", "0b"), -1, 1, 1, 0, 2);
        years(Check.bell("50;51", "0b"), 0, 1, 0, 1, 2);
    }

    private static void yearsIfItCan() {
        Check.says(46, "(2: if it can be");
        // Those of seed 1 are 16838, 38526, 10113: 2, then 0 and 1 of two, but 0 and 0 of three.
        years(Check.bell("50;50", "0b"), 1, 1, 0, 0, 0);
        years(Check.bell("50;50", ""), 1, 1, 0, 0, 2);
        years(Check.bell("50;50;50", "0b"), 1, 1, 0, 0, 2);
        years(Check.bell("50", ""), 1, 1, 0, 0, 0);
    }

    private static void yearsSkill() {
        Check.says(46, "3: a DRAW of PEOPLE one, a DRAW of 10 his SKILL then");
        // Those of seed 3 are 50515, 7107, 10365: 3, then 1 of two has SKILL 5.
        years(Check.bell("50;00", "0b"), 3, 1, 0, 0, 2);
        years(Check.bell("50;50", "0b"), 3, 1, 0, 0, 2);
        years(Check.bell("50;90", "0b", "s>5"), 3, 1, 0, 0, 0);
    }

    private static void yearsMany() {
        Check.says(46, "how many WOKE on each of these MORNINGS, added up");
        // DRAWS of 4 of seed 0 are 0, 0, 0, 1: four MORNINGS.
        BellForWanted x = Check.bell(SEVEN, ALL);
        years(x, 0, 1, 7, 0, 127);
        years(x, 0, 2, 14, 0, 127);
        years(x, 0, 4, 28, 0, 127);
        Check.due("sixty", x.years(0, 60) >= 28, true);
        Check.due("nothing changed", x.count(1), 0);
    }

    private static void yearsUnmet() {
        Check.says(46, "UNMET more in these (as it grew)");
        BellForWanted x = Check.bell(SEVEN, ALL, "0");
        years(x, 0, 4, 0, 28, 0);
        for (int i = 0; i < 23; i++) {
            x.mornings(60);
        }
        x.mornings(48);
        years(x, 0, 4, 0, 3, 0);
        x.mornings(1);
        years(x, 0, 4, 0, 0, 0);
    }

    private static void yearsWithout() {
        Check.says(46, "2, 3: nothing, no DRAWS more, without PEOPLE)");
        int[] seeds = {0, 1, 3, Integer.MIN_VALUE, Integer.MAX_VALUE};
        for (int seed : seeds) {
            years(new BellForWanted(), seed, 1, 0, 0, 0);
            years(new BellForWanted(), seed, 60, 0, 0, 0);
        }
    }

    /** What the DRAWS tell, by long arithmetic, done by the calls themselves. */
    private static void yearsSeeds() {
        Check.says(46, "R = R times 1103515245 + 12345 (as ints; R is seed at first), (R without sign, by 65536) % n");
        int[] seeds = {0, 1, -1, 2, 65535, 65536, Integer.MIN_VALUE, Integer.MAX_VALUE, -1103515245, 20261118};
        for (int seed : seeds) {
            for (int there = 1; there <= 7; there++) {
                BellForWanted x = Check.bell(SEVEN.substring(0, 3 * there - 1), "");
                BellForWanted y = Check.bell(SEVEN.substring(0, 3 * there - 1), "");
                int woke = plays(y, seed, 60, there);
                years(x, seed, 60, woke, y.count(2), y.wakes());
            }
        }
    }

    private static int plays(BellForWanted y, int seed, int n, int there) {
        long[] r = {seed & 0xffffffffL};
        int woke = 0;
        for (int i = 0; i < n; i++) {
            int lot = draw(r, 4);
            if (lot < 2) {
                woke += Integer.bitCount(y.mornings(1));
            } else if (lot == 2) {
                int one = draw(r, there);
                y.wishes(one, draw(r, there));
            } else {
                int one = draw(r, there);
                y.learns(one, draw(r, 10));
            }
        }
        return woke;
    }

    private static int draw(long[] r, int n) {
        r[0] = r[0] * 1103515245L + 12345L & 0xffffffffL;
        return (int) (r[0] / 65536 % n);
    }

    private static void yearsRefused() {
        Check.says(46, "NONE: another n.");
        BellForWanted x = Check.bell("50;50", "0b");
        x.serves();
        Check.due("0", x.years(1, 0), -1);
        Check.due("61", x.years(1, 61), -1);
        for (int far : FAR) {
            Check.due("years(1, " + far + ")", x.years(1, far), -1);
        }
        Check.row("the ROW stays", x, 1, -1);
    }
}
