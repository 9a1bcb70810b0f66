import java.util.Arrays;
import java.util.NoSuchElementException;

/** What the tests share: answers that are due, texts told sign by sign, the ROW as a whole. */
final class Check {
    private static int wrong = 0;
    private static int asked = 0;

    private Check() {
    }

    static void due(String call, long got, long want) {
        asked++;
        if (got != want) {
            wrong++;
            System.out.println(call + " answered " + got + ", due is " + want);
        }
    }

    static void due(String call, boolean got, boolean want) {
        due(call, got ? 1 : 0, want ? 1 : 0);
    }

    static void missing(String call, boolean threw) {
        due(call + " throws NoSuchElementException", threw, true);
    }

    /** The whole ROW, no number more and none fewer. */
    static void row(String behind, BellForWanted x, long... want) {
        asked++;
        long[] got = rowOf(x);
        if (!Arrays.equals(got, want)) {
            wrong++;
            System.out.println("the ROW behind " + behind + " is " + Arrays.toString(got)
                + ", due is " + Arrays.toString(want));
        }
    }

    static long[] rowOf(BellForWanted x) {
        long[] got = new long[Math.max(0, x.count(11))];
        for (int i = 0; i < got.length; i++) {
            got[i] = x.row(i);
        }
        missing("row(-1)", rowThrows(x, -1));
        missing("row(" + got.length + ")", rowThrows(x, got.length));
        return got;
    }

    static boolean rowThrows(BellForWanted x, int i) {
        try {
            x.row(i);
            return false;
        } catch (NoSuchElementException e) {
            return true;
        }
    }

    static boolean oneThrows(BellForWanted x, int one, int what) {
        try {
            x.one(one, what);
            return false;
        } catch (NoSuchElementException e) {
            return true;
        }
    }

    /** THE TEXT becomes this one. */
    static BellForWanted text(BellForWanted x, String s) {
        x.end(0);
        for (int i = 0; i < s.length(); i += 4) {
            int v = 0;
            for (int k = i; k < i + 4; k++) {
                v = v << 8 | (k < s.length() ? s.charAt(k) & 255 : 0);
            }
            x.sign(v);
        }
        due("end(" + s.length() + ")", x.end(s.length()), true);
        return x;
    }

    static int people(BellForWanted x, String s) {
        return text(x, s).people();
    }

    static int wants(BellForWanted x, String s) {
        return text(x, s).wants();
    }

    static int rule(BellForWanted x, String s) {
        return text(x, s).rule();
    }

    static int week(BellForWanted x, String s) {
        return text(x, s).week();
    }

    static int law(BellForWanted x, String s) {
        return text(x, s).law();
    }

    static BellForWanted bell(String people, String wants) {
        BellForWanted x = new BellForWanted();
        due("people() of " + people, people(x, people), people.isEmpty() ? 0 : people.split(";").length);
        due("wants() of " + wants, wants(x, wants), wants.isEmpty() ? 0 : wants.split(";").length);
        return x;
    }

    static BellForWanted bell(String people, String wants, String rule) {
        BellForWanted x = bell(people, wants);
        due("rule() of " + rule, rule(x, rule), 0);
        return x;
    }

    /** All that can be asked about the state without a change, the ROW and THE TEXT aside. */
    static String state(BellForWanted x) {
        StringBuilder all = new StringBuilder();
        for (int what = 0; what <= 10; what++) {
            all.append(x.count(what)).append(' ');
        }
        for (int one = 0; one < x.count(0); one++) {
            for (int what = 0; what <= 6; what++) {
                all.append(what == 0 ? '|' : ',').append(x.one(one, what));
            }
        }
        return all.toString();
    }

    static void same(String call, String got, String want) {
        asked++;
        if (!got.equals(want)) {
            wrong++;
            System.out.println(call + ": the state is " + got + ", due is " + want);
        }
    }

    static void ends() {
        System.out.println(asked + " answers, " + wrong + " not as due");
        if (wrong != 0 || asked == 0) {
            System.exit(1);
        }
    }
}
