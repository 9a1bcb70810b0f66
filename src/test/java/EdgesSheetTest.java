/** Promise 8: a test of its own for each sentence that names a boundary. */
public final class EdgesSheetTest {
    public static void main(String[] args) {
        entries();
        bytes();
        shorts();
        ints();
        putBetween();
        thoseBehind();
        sum();
        notUndone();
        below();
        missing();
        anotherKind();
        tooMany();
        theseFirst();
        Check.ends();
    }

    /** The sheet's answer is the sum of these SKILLS, which 0, 1, .. have then. */
    private static void tells(int kind, int n, int f, int step, int... skills) {
        BellForWanted x = Check.bell("11;11;11;11", "");
        String call = "sheet(" + kind + ", " + n + ", " + f + ", " + step + ")";
        int answer = x.sheet(kind, n, f, step);
        int sum = 0;
        for (int i = 0; i < 4; i++) {
            int due = i < skills.length ? skills[i] : 0;
            Check.due(call + ", SKILL of " + i, x.one(i, 0), due);
            Check.due(call + ", PILLS of " + i, x.one(i, 1), 1);
            sum += due;
        }
        Check.due(call, answer, sum);
    }

    private static void entries() {
        Check.says(8, "of n entries f, f + step, ..");
        for (int kind = 0; kind <= 2; kind++) {
            tells(kind, 4, 1, 2, 1, 3, 5, 7);
            tells(kind, 4, 9, -3, 9, 6, 3, 0);
            tells(kind, 1, 5, 1, 5);
            tells(kind, 0, 5, 1);
            tells(kind, 7, 2, 0, 2, 2, 2, 2);
            tells(kind, 4, 3, 0, 3, 3, 3, 3);
        }
    }

    private static void bytes() {
        Check.says(8, "of bytes, shorts the lowest bits, with their sign");
        tells(0, 4, 127, 1, 9, 0, 0, 0);
        tells(0, 4, -129, 1, 9, 0, 0, 0);
        tells(0, 4, 255, 1, 0, 0, 1, 2);
        tells(0, 4, 260, 256, 4, 4, 4, 4);
        tells(0, 4, 65539, 65536, 3, 3, 3, 3);
        tells(0, 4, Integer.MAX_VALUE, 1, 0, 0, 1, 2);
    }

    private static void shorts() {
        Check.says(8, "of bytes, shorts the lowest bits, with their sign");
        tells(1, 4, 127, 1, 9, 9, 9, 9);
        tells(1, 4, 32767, 1, 9, 0, 0, 0);
        tells(1, 4, -32769, 1, 9, 0, 0, 0);
        tells(1, 4, 65535, 1, 0, 0, 1, 2);
        tells(1, 4, 65540, 65536, 4, 4, 4, 4);
        tells(1, 4, 260, 0, 9, 9, 9, 9);
        tells(1, 4, Integer.MAX_VALUE, 1, 0, 0, 1, 2);
    }

    private static void ints() {
        Check.says(8, "ints (2)");
        tells(2, 4, 65540, 65536, 9, 9, 9, 9);
        tells(2, 4, 32767, 1, 9, 9, 9, 9);
        tells(2, 4, Integer.MAX_VALUE, 1, 9, 0, 0, 0);
        tells(2, 4, Integer.MIN_VALUE, -1, 0, 9, 9, 9);
        tells(2, 4, 5, Integer.MIN_VALUE, 5, 0, 5, 0);
        tells(2, 4, -3, 1 << 30, 0, 9, 9, 0);
    }

    private static void putBetween() {
        Check.says(8, "put to 0 .. 9");
        for (int kind = 0; kind <= 2; kind++) {
            tells(kind, 4, 8, 1, 8, 9, 9, 9);
            tells(kind, 4, 1, -1, 1, 0, 0, 0);
            tells(kind, 4, 100, 0, 9, 9, 9, 9);
            tells(kind, 4, -100, 0, 0, 0, 0, 0);
        }
    }

    private static void thoseBehind() {
        Check.says(8, "those behind it have 0");
        for (int kind = 0; kind <= 2; kind++) {
            tells(kind, 2, 7, 1, 7, 8, 0, 0);
            tells(kind, 3, 7, 1, 7, 8, 9, 0);
            tells(kind, 0, 7, 1, 0, 0, 0, 0);
        }
    }

    private static void sum() {
        Check.says(8, "the sum of all");
        BellForWanted seven = Check.bell("11;11;11;11;11;11;11", "");
        Check.due("seven of 9", seven.sheet(2, 7, 9, 0), 63);
        Check.due("seven of 9, counted", seven.count(4), 63);
        Check.due("six of them", seven.sheet(2, 6, 9, 0), 54);
        Check.due("none of them", seven.sheet(2, 0, 9, 0), 0);
        Check.due("without PEOPLE", new BellForWanted().sheet(2, 7, 9, 0), 0);
    }

    private static void notUndone() {
        Check.says(8, "Can't be undone.");
        BellForWanted x = Check.bell("11;11", "");
        x.sheet(2, 2, 5, 0);
        Check.due("undo()", x.undo(), -1);
        Check.due("SKILLS stay", x.count(4), 10);
        x.wishes(0, 1);
        x.sheet(2, 2, 6, 0);
        Check.due("what can be is still wishes() alone", x.count(10), 1);
        Check.due("undo() of it", x.undo(), 0);
        Check.due("WANTS", x.count(3), 0);
        Check.due("all as ahead of it", x.count(4), 10);
    }

    private static void below() {
        Check.says(8, "-2: n below 0 (of kinds 0 .. 2; nothing changes)");
        for (int kind = 0; kind <= 2; kind++) {
            BellForWanted x = Check.bell("31;41", "");
            Check.due("n -1", x.sheet(kind, -1, 5, 0), -2);
            Check.due("the least n", x.sheet(kind, Integer.MIN_VALUE, 5, 0), -2);
            Check.due("nothing changes", x.count(4), 7);
        }
    }

    private static void missing() {
        Check.says(8, "-3: missing (all 0)");
        int[] many = {0, 7, -1, Integer.MIN_VALUE};
        for (int n : many) {
            BellForWanted x = Check.bell("31;41", "");
            Check.due("n " + n, x.sheet(3, n, 5, 1), -3);
            Check.due("all 0", x.count(4), 0);
            Check.due("PILLS stay", x.count(5), 2);
        }
        Check.due("without PEOPLE", new BellForWanted().sheet(3, 0, 5, 1), -3);
    }

    private static void anotherKind() {
        Check.says(8, "NONE: another kind");
        int[] kinds = {-1, 4, Integer.MIN_VALUE, Integer.MAX_VALUE};
        for (int kind : kinds) {
            BellForWanted x = Check.bell("31;41", "");
            Check.due("kind " + kind, x.sheet(kind, 2, 5, 1), -1);
            Check.due("nothing changes", x.count(4), 7);
        }
    }

    private static void tooMany() {
        Check.says(8, "n above 7");
        for (int kind = 0; kind <= 3; kind++) {
            BellForWanted x = Check.bell("31;41", "");
            Check.due("n 8 of kind " + kind, x.sheet(kind, 8, 5, 1), -1);
            Check.due("the most n of kind " + kind, x.sheet(kind, Integer.MAX_VALUE, 5, 1), -1);
            Check.due("nothing changes", x.count(4), 7);
        }
        Check.due("n 7", Check.bell("31;41", "").sheet(2, 7, 5, 1), 11);
    }

    private static void theseFirst() {
        Check.says(8, "(these first)");
        BellForWanted x = Check.bell("31;41", "");
        Check.due("another kind, n below 0", x.sheet(4, -1, 5, 1), -1);
        Check.due("another kind below 0, n below 0", x.sheet(-1, -1, 5, 1), -1);
        Check.due("missing, n above 7", x.sheet(3, 8, 5, 1), -1);
        Check.due("nothing changes", x.count(4), 7);
    }
}
