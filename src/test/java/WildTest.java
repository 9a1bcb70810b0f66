import java.util.NoSuchElementException;
import java.util.Random;

/** Any arguments in any state: no call throws by itself, and none answers what it can't. */
public final class WildTest {
    private static final int[] EDGES = {Integer.MIN_VALUE, Integer.MIN_VALUE + 1, -10001, -100, -2, -1, 0, 1, 2, 3, 4, 5,
        6, 7, 8, 9, 10, 12, 20, 31, 32, 33, 59, 60, 61, 63, 64, 80, 99, 100, 127, 128, 255, 256, 32768, 65536,
        Integer.MAX_VALUE - 1, Integer.MAX_VALUE};
    private static final String SIGNS = "0123456789;abcdefgnstplwvu()+-*/<>=0b1c2a";

    public static void main(String[] args) {
        for (int seed = 0; seed < 400; seed++) {
            run(new Random(seed), seed);
        }
        Check.ends();
    }

    private static void run(Random random, int seed) {
        BellForWanted x = new BellForWanted();
        String call = "";
        try {
            for (int i = 0; i < 512; i++) {
                int which = random.nextInt(52);
                call = "call " + which + " no. " + i + " of seed " + seed;
                ask(x, which, random);
                if (random.nextInt(4) == 0) {
                    tell(x, random);
                }
            }
            Check.due(seed + " threw", false, false);
        } catch (RuntimeException e) {
            e.printStackTrace(System.out);
            Check.due(call + " threw", true, false);
        }
        Check.due("people of seed " + seed, x.count(0) <= 7, true);
        Check.due("UNMET of seed " + seed, x.count(2) <= 9999, true);
        Check.due("steps of seed " + seed, x.count(10) <= 12, true);
        Check.due("signs of seed " + seed, x.count(12) <= 80, true);
    }

    private static int any(Random random) {
        int way = random.nextInt(8);
        return way == 0 ? random.nextInt() : way < 4 ? EDGES[random.nextInt(EDGES.length)] : random.nextInt(7);
    }

    private static void tell(BellForWanted x, Random random) {
        String[] good = {"50;30;72", "90", "0b;1a", "0bc;1a;2b", "s-w*t", "(n<3)*b+u/v", "n9t01p12s05l0", "t10n3", "1"};
        String s = good[random.nextInt(good.length)];
        if (random.nextInt(3) == 0) {
            StringBuilder wild = new StringBuilder();
            for (int i = random.nextInt(80); i >= 0; i--) {
                wild.append(SIGNS.charAt(random.nextInt(SIGNS.length())));
            }
            s = wild.toString();
        }
        Check.text(x, s);
    }

    private static void ask(BellForWanted x, int which, Random random) {
        int a = any(random);
        int b = any(random);
        switch (which) {
            case 0: x.sign(a); break;
            case 1: x.end(a); break;
            case 2: x.people(); break;
            case 3: x.wants(); break;
            case 4: x.rule(); break;
            case 5: one(x, a, b); break;
            case 6: x.sheet(a, b, any(random), any(random)); break;
            case 7: x.mornings(a); break;
            case 8: x.wishes(a, b); break;
            case 9: x.pills(a, b); break;
            case 10: x.learns(a, b); break;
            case 11: x.leaves(a); break;
            case 12: x.week(); break;
            case 13: x.undo(); break;
            case 14: x.wakes(); break;
            case 15: x.later(a, b); break;
            case 16: x.when(a); break;
            case 17: x.quiet(); break;
            case 18: x.runs(a, b); break;
            case 19: x.each(); break;
            case 20: x.busiest(a); break;
            case 21: x.serves(); break;
            case 22: x.boot(); break;
            case 23: x.enough(); break;
            case 24: x.steps(a); break;
            case 25: x.sleeps(a); break;
            default: askMore(x, which, random, a, b); break;
        }
    }

    private static void askMore(BellForWanted x, int which, Random random, int a, int b) {
        switch (which) {
            case 26: x.worth(a); break;
            case 27: x.spares(); break;
            case 28: x.follows(a); break;
            case 29: x.ring(); break;
            case 30: x.friends(); break;
            case 31: x.way(a, b); break;
            case 32: x.heard(a, b); break;
            case 33: x.forget(); break;
            case 34: x.fits(); break;
            case 35: x.asks(); break;
            case 36: x.saw(a, b, any(random)); break;
            case 37: x.denies(); break;
            case 38: x.laws(); break;
            case 39: x.looks(); break;
            case 40: x.odds(a, b); break;
            case 41: x.vigil(a); break;
            case 42: x.rests(a); break;
            case 43: x.law(); break;
            case 44: x.years(a, b); break;
            case 45: x.keep(a); break;
            case 46: x.again(a); break;
            case 47: x.count(a); break;
            case 48: row(x, a); break;
            default: tell(x, random); break;
        }
    }

    private static void one(BellForWanted x, int one, int what) {
        boolean there = one >= 0 && one < x.count(0) && what >= 0 && what <= 6;
        boolean threw = false;
        try {
            x.one(one, what);
        } catch (NoSuchElementException e) {
            threw = true;
        }
        Check.due("one(" + one + ", " + what + ") throws", threw, !there);
    }

    private static void row(BellForWanted x, int i) {
        Check.due("row(" + i + ") throws", Check.rowThrows(x, i), i < 0 || i >= x.count(11));
    }
}
