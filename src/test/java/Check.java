import java.io.IOException;
import java.nio.file.Files;
import java.nio.file.Path;
import java.util.Arrays;
import java.util.NoSuchElementException;

/** What the tests share: answers that are due, texts told sign by sign, the ROW as a whole. */
final class Check {
    private static final Path DOCUMENT = Path.of("../shared/DOC.md");
    private static final String PROMISES_END = "## Not promised";
    private static int wrong = 0;
    private static int asked = 0;
    private static String sentence = "";
    private static String document;

    private Check() {
    }

    /** The words of a promise (of Terms: 0) to which the answers behind this call hold. */
    static void says(int promise, String words) {
        sentence = promise + ": \"" + words + "\": ";
        String part = part(promise);
        asked++;
        if (!part.isEmpty() && !part.contains(words)) {
            wrong++;
            System.out.println(sentence + "the document has no such words there");
        }
    }

    /** What the document says of a promise, with single spaces; nothing, if there is no document. */
    private static String part(int promise) {
        if (document == null) {
            try {
                document = Files.exists(DOCUMENT) ? Files.readString(DOCUMENT).replaceAll("\\s+", " ") : "";
            } catch (IOException e) {
                document = "";
            }
        }
        int from = document.indexOf(promise == 0 ? "## Terms" : "## Promise " + promise + ":");
        int to = document.indexOf("## Promise " + (promise + 1) + ":");
        to = to < 0 ? document.indexOf(PROMISES_END) : to;
        return from < 0 || to < from ? "" : document.substring(from, to);
    }

    static void due(String call, long got, long want) {
        asked++;
        if (got != want) {
            wrong++;
            System.out.println(sentence + call + " answered " + got + ", due is " + want);
        }
    }

    static void due(String call, boolean got, boolean want) {
        due(call, got ? 1 : 0, want ? 1 : 0);
    }

    static void missing(String call, boolean threw) {
        due(call + " throws NoSuchElementException", threw, true);
    }

    /** The whole ROW, no number more and none fewer. */
    static void row(String behind, BellForWanted x, long... want) {
        asked++;
        long[] got = rowOf(x);
        if (!Arrays.equals(got, want)) {
            wrong++;
            System.out.println(sentence + "the ROW behind " + behind + " is " + Arrays.toString(got)
                + ", due is " + Arrays.toString(want));
        }
    }

    static long[] rowOf(BellForWanted x) {
        long[] got = new long[Math.max(0, x.count(11))];
        for (int i = 0; i < got.length; i++) {
            got[i] = x.row(i);
        }
        missing("row(-1)", rowThrows(x, -1));
        missing("row(" + got.length + ")", rowThrows(x, got.length));
        return got;
    }

    static boolean rowThrows(BellForWanted x, int i) {
        try {
            x.row(i);
            return false;
        } catch (NoSuchElementException e) {
            return true;
        }
    }

    static boolean oneThrows(BellForWanted x, int one, int what) {
        try {
            x.one(one, what);
            return false;
        } catch (NoSuchElementException e) {
            return true;
        }
    }

    /** THE TEXT becomes this one. */
    static BellForWanted text(BellForWanted x, String s) {
        x.end(0);
        for (int i = 0; i < s.length(); i += 4) {
            int v = 0;
            for (int k = i; k < i + 4; k++) {
                v = v << 8 | (k < s.length() ? s.charAt(k) & 255 : 0);
            }
            x.sign(v);
        }
        due("end(" + s.length() + ")", x.end(s.length()), true);
        return x;
    }

    static int people(BellForWanted x, String s) {
        return text(x, s).people();
    }

    static int wants(BellForWanted x, String s) {
        return text(x, s).wants();
    }

    static int rule(BellForWanted x, String s) {
        return text(x, s).rule();
    }

    static int week(BellForWanted x, String s) {
        return text(x, s).week();
    }

    static int law(BellForWanted x, String s) {
        return text(x, s).law();
    }

    static BellForWanted bell(String people, String wants) {
        BellForWanted x = new BellForWanted();
        due("people() of " + people, people(x, people), people.isEmpty() ? 0 : people.split(";").length);
        due("wants() of " + wants, wants(x, wants), wants.isEmpty() ? 0 : wants.split(";").length);
        return x;
    }

    static BellForWanted bell(String people, String wants, String rule) {
        BellForWanted x = bell(people, wants);
        due("rule() of " + rule, rule(x, rule), 0);
        return x;
    }

    /** All that can be asked about the state without a change, the ROW and THE TEXT aside. */
    static String state(BellForWanted x) {
        StringBuilder all = new StringBuilder();
        for (int what = 0; what <= 10; what++) {
            all.append(x.count(what)).append(' ');
        }
        for (int one = 0; one < x.count(0); one++) {
            for (int what = 0; what <= 6; what++) {
                all.append(what == 0 ? '|' : ',').append(x.one(one, what));
            }
        }
        return all.toString();
    }

    /** All that an object can tell, what it heard, saw, can undo and has kept as well: it is used up by that. */
    static String all(BellForWanted x) {
        StringBuilder all = new StringBuilder();
        all.append(Arrays.toString(rowOf(x))).append(x.count(12));
        all.append(" law ").append(x.law()).append(Arrays.toString(rowOf(x)));
        all.append(" fits ").append(x.fits()).append(" laws ").append(x.laws()).append(Arrays.toString(rowOf(x)));
        all.append(" now ").append(state(x));
        for (int left = x.undo(); left >= 0; left = x.undo()) {
            all.append(" undone ").append(state(x));
        }
        for (int i = 0; i <= 1; i++) {
            all.append(" kept ").append(x.again(i)).append(' ').append(state(x));
        }
        return all.toString();
    }

    static void same(String call, String got, String want) {
        asked++;
        if (!got.equals(want)) {
            wrong++;
            System.out.println(sentence + call + ": the state is " + got + ", due is " + want);
        }
    }

    static void ends() {
        System.out.println(asked + " answers, " + wrong + " not as due");
        if (wrong != 0 || asked == 0) {
            System.exit(1);
        }
    }
}
