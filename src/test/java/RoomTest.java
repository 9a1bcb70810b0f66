import java.lang.management.ManagementFactory;

/** All calls of a run live in one room: an object takes little of it, and the dearest calls take next to nothing. */
public final class RoomTest {
    private static final long OBJECT_BYTES = 64 * 1024;
    private static final long CALLS_BYTES = 64 * 1024;

    public static void main(String[] args) {
        com.sun.management.ThreadMXBean beans = (com.sun.management.ThreadMXBean) ManagementFactory.getThreadMXBean();
        calls(filled(), 2);
        long before = beans.getCurrentThreadAllocatedBytes();
        BellForWanted x = filled();
        long made = beans.getCurrentThreadAllocatedBytes() - before;
        Check.due("an object has few bytes: " + made, made < OBJECT_BYTES, true);
        before = beans.getCurrentThreadAllocatedBytes();
        calls(x, 12);
        long used = beans.getCurrentThreadAllocatedBytes() - before;
        Check.due("calls make nothing: " + used, used < CALLS_BYTES, true);
        Check.ends();
    }

    private static BellForWanted filled() {
        BellForWanted x = new BellForWanted();
        tell(x, "90;90;90;90;90;90;90");
        x.people();
        tell(x, "0bcdefg;1acdefg;2abdefg;3abcefg;4abcdfg;5abcdeg;6abcdef");
        x.wants();
        return x;
    }

    private static void tell(BellForWanted x, String s) {
        x.end(0);
        for (int i = 0; i < s.length(); i += 4) {
            int v = 0;
            for (int k = i; k < i + 4; k++) {
                v = v << 8 | (k < s.length() ? s.charAt(k) : 0);
            }
            x.sign(v);
        }
        x.end(s.length());
    }

    private static void calls(BellForWanted x, int times) {
        for (int i = 0; i < times; i++) {
            tell(x, "(((s-4+w)*1)+t-t)*(1+b*u)/1+n*0+v-v");
            x.rule();
            tell(x, "n9n9n9t01t01p01");
            x.week();
            x.mornings(60);
            x.undo();
            x.when(6);
            x.quiet();
            x.each();
            x.busiest(99);
            x.serves();
            x.boot();
            x.enough();
            x.steps(0);
            x.sleeps(3);
            x.worth(3);
            x.spares();
            x.follows(3);
            x.ring();
            x.friends();
            x.way(0, 6);
            x.fits();
            x.asks();
            x.laws();
            x.looks();
            x.odds(2, 3);
            x.vigil(60);
            x.rests(5);
            tell(x, "s");
            x.law();
            x.years(i, 60);
            x.keep(0);
            x.again(0);
        }
    }
}
