/** Promises 42 to 46: odds, a vigil, rests, another rule, years. */
public final class OddsTest {
    public static void main(String[] args) {
        odds();
        vigil();
        rests();
        law();
        years();
        yearsByHand();
        Check.ends();
    }

    private static void odds(BellForWanted x, int one, int p, long upper, long lower) {
        Check.due("42: odds(" + one + ", " + p + ")", x.odds(one, p), 0);
        Check.row("42: odds(" + one + ", " + p + ")", x, upper, lower);
    }

    private static void odds() {
        BellForWanted x = Check.bell("50;30;72", "0bc;1a;2b");
        odds(x, 0, 5, 1, 2);
        odds(x, 1, 5, 1, 4);
        odds(x, 1, 3, 9, 100);
        odds(x, 1, 8, 16, 25);
        odds(x, 2, 5, 0, 1);
        odds(x, 0, 0, 0, 1);
        odds(x, 0, 10, 1, 1);
        odds(x, 1, 10, 1, 1);
        Check.due("42: none such", x.odds(3, 5), -1);
        Check.due("42: none such", x.odds(-1, 5), -1);
        Check.due("42: p 11", x.odds(0, 11), -1);
        Check.due("42: p -1", x.odds(0, -1), -1);
        Check.row("42: the ROW stays", x, 1, 1);
        // Not wanted at all.
        odds(Check.bell("90;90", "0b"), 0, 7, 0, 1);
        // Six want 0 of SKILL 9: all but one in a million to sleep by 9 tenths.
        BellForWanted six = Check.bell("90;50;50;50;50;50;50", "1a;2a;3a;4a;5a;6a");
        odds(six, 0, 9, 999999, 1000000);
        // Of SKILL 0 he must be wanted by five: 6 times 9^5 and 9^6.
        six.learns(0, 0);
        odds(six, 0, 9, (6 * 59049 + 531441) / 5, 1000000 / 5);
        // v, b are as now, w counts those who do: 1 wants two others, 2 is wanted by 0.
        BellForWanted v = Check.bell("10;50;50", "1ac;2a;0c", "v=2");
        odds(v, 0, 3, 3, 10);
        BellForWanted b = Check.bell("10;50;50", "1ac;2a;0c", "b");
        odds(b, 0, 4, 2, 5);
        BellForWanted w = Check.bell("10;50;50", "1a;2a", "w=1");
        odds(w, 0, 5, 1, 2);
        odds(w, 0, 1, 9, 50);
        odds(w, 0, 10, 0, 1);
    }

    private static void vigil() {
        BellForWanted x = new BellForWanted();
        boolean[] wins = new boolean[61];
        int[] turns = {1, 2, 4, 8, 16, 32};
        for (int n = 0; n <= 60; n++) {
            int great = 0;
            for (int t : turns) {
                great = t <= n ? t : great;
            }
            int least = n > 0 && !wins[n - 1] ? 1 : n > 0 && !wins[n - great] ? great : 0;
            wins[n] = least > 0;
            Check.due("43: vigil(" + n + ")", x.vigil(n), least > 0 ? 1 : 0);
            if (least > 0) {
                Check.row("43: vigil(" + n + ")", x, least);
            } else {
                Check.row("43: vigil(" + n + ")", x);
            }
        }
        int[] due = {0, 1, 1, 0, 1, 0, 1, 1, 1, 0};
        for (int n = 0; n < due.length; n++) {
            Check.due("43: vigil(" + n + ") by hand", x.vigil(n), due[n]);
        }
        x.vigil(7);
        Check.due("43: n 61", x.vigil(61), -1);
        Check.due("43: n -1", x.vigil(-1), -1);
        Check.row("43: the ROW stays", x, 4);
    }

    private static void rests() {
        BellForWanted x = new BellForWanted();
        Check.due("44: v 0", x.rests(0), 1);
        Check.row("44: v 0", x, 9, 9);
        // Who lies in longer has 18 more at most, but loses 20: all like ones hold, and they alone.
        Check.due("44: v 20", x.rests(20), 10);
        Check.row("44: v 20", x, 0, 0);
        for (int v = 0; v <= 20; v++) {
            int pairs = 0;
            int first = -1;
            for (int pair = 0; pair < 100; pair++) {
                int x1 = pair / 10;
                int y1 = pair % 10;
                boolean still = true;
                for (int z = 0; z <= 9; z++) {
                    still &= gain(z, y1, v) <= gain(x1, y1, v) && gain(z, x1, v) <= gain(y1, x1, v);
                }
                first = still && pairs == 0 ? pair : first;
                pairs += still ? 1 : 0;
            }
            Check.due("44: rests(" + v + ")", x.rests(v), pairs);
            if (pairs > 0) {
                Check.row("44: rests(" + v + ")", x, first / 10, first % 10);
            } else {
                Check.row("44: rests(" + v + ")", x);
            }
        }
        x.rests(0);
        Check.due("44: v 21", x.rests(21), -1);
        Check.due("44: v -1", x.rests(-1), -1);
        Check.row("44: the ROW stays", x, 9, 9);
    }

    private static int gain(int mine, int his, int v) {
        int all = 2 * mine;
        if (mine <= his) {
            all += v;
        }
        return mine + his > 8 ? all - (mine + his - 8) : all;
    }

    private static void law() {
        BellForWanted x = Check.bell("50;30;72", "0bc;1a;2b");
        Check.due("45: law() of 0", Check.law(x, "0"), -2);
        Check.row("45: law() of 0", x, 0, 2, 0, 0, 0);
        Check.due("45: law() of 1", Check.law(x, "1"), 0);
        Check.row("45: law() of 1, PILLS aside", x, 2, 2, 2, 5, 1);
        Check.due("45: an empty one is none", Check.law(x, ""), 0);
        Check.row("45: an empty one is none", x, 2, 2, 2, 5, 1);
        Check.due("45: THE TEXT is empty", x.count(12), 0);
        Check.due("45: a fault at 0", Check.law(x, "x"), -10000);
        Check.due("45: a fault at the end", Check.law(x, "s+"), -10002);
        Check.due("45: THE TEXT is empty", x.count(12), 0);
        Check.row("45: the ROW stays", x, 2, 2, 2, 5, 1);
        Check.rule(x, "0");
        Check.due("45: more than by THE RULE", Check.law(x, "t<4"), 1);
        Check.row("45: more than by THE RULE", x, 1, 0, 2, 0, 0);
        Check.due("45: THE RULE stays", x.wakes(), 0);
        BellForWanted none = new BellForWanted();
        Check.due("45: without PEOPLE", Check.law(none, "s"), 0);
        Check.row("45: without PEOPLE", none, 0, 0);
    }

    private static void years() {
        BellForWanted x = Check.bell("50;30;72", "0bc;1a;2b");
        String before = Check.state(x);
        Check.due("46: n 0", x.years(1, 0), -1);
        Check.due("46: n 61", x.years(1, 61), -1);
        Check.due("46: n -1", x.years(1, -1), -1);
        Check.due("46: n MIN", x.years(1, Integer.MIN_VALUE), -1);
        Check.row("46: the ROW stays", x);
        int first = x.years(-77, 60);
        long[] row = Check.rowOf(x);
        Check.due("46: the same again", x.years(-77, 60), first);
        Check.row("46: the same again", x, row);
        Check.same("46: nothing changes", Check.state(x), before);
    }

    /** The DRAWS of a seed by long arithmetic, and what they tell done by the calls themselves on another object. */
    private static void yearsByHand() {
        int[] seeds = {0, 1, 2, 3, 12345, -1, Integer.MIN_VALUE, Integer.MAX_VALUE, 987654321};
        for (int seed : seeds) {
            for (int n = 1; n <= 60; n += n < 10 ? 1 : 10) {
                BellForWanted x = Check.bell("50;30;72;41", "0bc;1a;2b;3a");
                BellForWanted y = Check.bell("50;30;72;41", "0bc;1a;2b;3a");
                int woke = plays(y, seed, n);
                Check.due("46: years(" + seed + ", " + n + ")", x.years(seed, n), woke);
                Check.row("46: years(" + seed + ", " + n + ")", x, y.count(2), y.wakes());
            }
        }
        BellForWanted none = new BellForWanted();
        Check.due("46: without PEOPLE", none.years(5, 60), 0);
        Check.row("46: without PEOPLE", none, 0, 0);
        BellForWanted alone = Check.bell("90", "");
        Check.due("46: alone", alone.years(5, 60), 0);
        Check.row("46: alone", alone, 0, 0);
    }

    private static int plays(BellForWanted y, int seed, int n) {
        long[] r = {seed & 0xffffffffL};
        int woke = 0;
        for (int i = 0; i < n; i++) {
            int lot = draw(r, 4);
            if (lot < 2) {
                woke += Integer.bitCount(y.mornings(1));
            } else {
                int one = draw(r, 4);
                int next = draw(r, lot == 2 ? 4 : 10);
                if (lot == 2) {
                    y.wishes(one, next);
                } else {
                    y.learns(one, next);
                }
            }
        }
        return woke;
    }

    private static int draw(long[] r, int n) {
        r[0] = r[0] * 1103515245L + 12345L & 0xffffffffL;
        return (int) ((r[0] >> 16) % n);
    }
}
