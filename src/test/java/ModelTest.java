import java.util.ArrayList;
import java.util.List;
import java.util.Random;
import java.util.TreeSet;

/**
 * Runs of calls drawn by a fixed seed, on the class and on a slow model of the document that tries all there is
 * (sets, rows, matchings) instead of reckoning cleverly.
 */
public final class ModelTest {
    private static final int RUNS = 1500;
    private static final int CALLS = 120;

    public static void main(String[] args) {
        for (int seed = 0; seed < RUNS; seed++) {
            if (!new Run(seed).isRight()) {
                Check.due("the run of seed " + seed + " is right", false, true);
                break;
            }
            Check.due("the run of seed " + seed, 0, 0);
        }
        Check.ends();
    }

    /** A text can't stand: where. */
    private static final class Fault extends RuntimeException {
        private static final long serialVersionUID = 1;
        final int at;

        Fault(int at) {
            this.at = at;
        }
    }

    /** One of PEOPLE. */
    private static final class Person {
        int skill;
        int pills;
        int slept;
        int woken;
        TreeSet<Integer> wants = new TreeSet<>();

        Person copy() {
            Person p = new Person();
            p.skill = skill;
            p.pills = pills;
            p.slept = slept;
            p.woken = woken;
            p.wants = new TreeSet<>(wants);
            return p;
        }
    }

    /** PEOPLE, WANTS, DAY, UNMET. */
    private static final class World {
        List<Person> all = new ArrayList<>();
        int day;
        int unmet;

        World copy() {
            World w = new World();
            for (Person p : all) {
                w.all.add(p.copy());
            }
            w.day = day;
            w.unmet = unmet;
            return w;
        }

        int size() {
            return all.size();
        }

        boolean has(int one) {
            return one >= 0 && one < all.size();
        }

        boolean wants(int one, int other) {
            return all.get(one).wants.contains(other);
        }

        TreeSet<Integer> wanting(int one) {
            TreeSet<Integer> set = new TreeSet<>();
            for (int i = 0; i < size(); i++) {
                if (wants(i, one)) {
                    set.add(i);
                }
            }
            return set;
        }

        int wantsOfAll() {
            int n = 0;
            for (Person p : all) {
                n += p.wants.size();
            }
            return n;
        }

        /** By whom one is NEEDED, if just these want him. */
        TreeSet<Integer> needers(String rule, int one, TreeSet<Integer> wanting) {
            TreeSet<Integer> set = new TreeSet<>();
            for (int by : wanting) {
                Person him = all.get(one);
                Person who = all.get(by);
                int[] things = {him.skill, who.skill, wanting.size(), who.wants.size(), him.slept,
                    him.wants.contains(by) ? 1 : 0, day % 7};
                if (new Text(rule, things).value() > 0) {
                    set.add(by);
                }
            }
            return set;
        }

        boolean wakes(String rule, int one) {
            return all.get(one).pills == 0 && !needers(rule, one, wanting(one)).isEmpty();
        }

        TreeSet<Integer> wakers(String rule) {
            TreeSet<Integer> set = new TreeSet<>();
            for (int i = 0; i < size(); i++) {
                if (wakes(rule, i)) {
                    set.add(i);
                }
            }
            return set;
        }

        int unserved(TreeSet<Integer> awake) {
            int n = 0;
            for (Person p : all) {
                boolean none = true;
                for (int w : p.wants) {
                    none &= !awake.contains(w);
                }
                n += !p.wants.isEmpty() && none ? 1 : 0;
            }
            return n;
        }

        TreeSet<Integer> morning(String rule) {
            TreeSet<Integer> awake = wakers(rule);
            for (int i = unserved(awake); i > 0; i--) {
                unmet = unmet < 9999 ? unmet + 1 : 9999;
            }
            for (int i = 0; i < size(); i++) {
                Person p = all.get(i);
                if (awake.contains(i)) {
                    p.woken = p.woken < 999 ? p.woken + 1 : 999;
                    p.slept = 0;
                } else {
                    p.slept = p.slept < 99 ? p.slept + 1 : 99;
                }
                p.pills = p.pills > 0 ? p.pills - 1 : 0;
            }
            day++;
            return awake;
        }

        int wishes(int one, int other) {
            if (!has(one) || !has(other) || one == other) {
                return -1;
            }
            TreeSet<Integer> w = all.get(one).wants;
            if (!w.remove(other)) {
                w.add(other);
            }
            return bits(w);
        }

        int pills(int one, int n) {
            if (!has(one) || n < 1 || n > 9) {
                return -1;
            }
            if (all.get(one).pills + n > 9) {
                return -2;
            }
            return all.get(one).pills += n;
        }

        int learns(int one, int v) {
            if (!has(one) || v < 0 || v > 9) {
                return -1;
            }
            int was = all.get(one).skill;
            all.get(one).skill = v;
            return was == v ? -2 : 10 + was;
        }

        int leaves(int one) {
            if (!has(one)) {
                return -1;
            }
            int gone = all.get(one).wants.size();
            all.get(one).wants.clear();
            for (Person p : all) {
                gone += p.wants.remove(one) ? 1 : 0;
            }
            return gone == 0 ? -2 : gone;
        }
    }

    private static int bits(Iterable<Integer> set) {
        int bits = 0;
        for (int i : set) {
            bits |= 1 << i;
        }
        return bits;
    }

    private static int bit(int bits, int i) {
        return bits >> i & 1;
    }

    private static boolean less(List<Integer> a, List<Integer> b) {
        for (int i = 0; i < a.size() && i < b.size(); i++) {
            if (!a.get(i).equals(b.get(i))) {
                return a.get(i) < b.get(i);
            }
        }
        return a.size() < b.size();
    }

    /** A RULE reckoned from its text by descent. */
    private static final class Text {
        final String s;
        final int[] things;
        int p = 0;

        Text(String s, int[] things) {
            this.s = s;
            this.things = things;
        }

        int now() {
            return p < s.length() ? s.charAt(p) : -1;
        }

        int value() {
            int v = compared(0);
            if (p < s.length()) {
                throw new Fault(p);
            }
            return v;
        }

        int compared(int depth) {
            int a = added(depth);
            int c = now();
            if (c != '<' && c != '>' && c != '=') {
                return a;
            }
            p++;
            int b = added(depth);
            return (c == '<' ? a < b : c == '>' ? a > b : a == b) ? 1 : 0;
        }

        int added(int depth) {
            int a = times(depth);
            while (now() == '+' || now() == '-') {
                boolean plus = now() == '+';
                p++;
                int b = times(depth);
                a = plus ? a + b : a - b;
            }
            return a;
        }

        int times(int depth) {
            int a = signed(depth);
            while (now() == '*' || now() == '/') {
                boolean by = now() == '*';
                p++;
                int b = signed(depth);
                a = by ? a * b : b == 0 ? 0 : a / b;
            }
            return a;
        }

        int signed(int depth) {
            if (now() == '-') {
                p++;
                return -signed(depth);
            }
            int c = now();
            if (c == '(' && depth < 4) {
                p++;
                int a = compared(depth + 1);
                if (now() != ')') {
                    throw new Fault(p);
                }
                p++;
                return a;
            }
            if (c >= '0' && c <= '9') {
                int a = 0;
                for (int i = 0; i < 3 && now() >= '0' && now() <= '9'; i++) {
                    a = a * 10 + now() - '0';
                    p++;
                }
                return a;
            }
            int thing = c < 0 ? -1 : "stwvubn".indexOf(c);
            if (thing < 0) {
                throw new Fault(p);
            }
            p++;
            return things[thing];
        }
    }

    /** The text if it has no more signs; else a fault ahead of the limit, or at it. */
    private static void limited(String s, int limit, java.util.function.Consumer<String> reading) {
        if (s.length() <= limit) {
            reading.accept(s);
            return;
        }
        try {
            reading.accept(s.substring(0, limit));
        } catch (Fault f) {
            throw f.at < limit ? f : new Fault(limit);
        }
        throw new Fault(limit);
    }

    private static String ruleOf(String s) {
        limited(s, 40, t -> new Text(t, new int[7]).value());
        return s;
    }

    /** The slow model: every call of the face by its name. */
    private static final class Model {
        World now = new World();
        String rule = "s-4+w";
        String text = "";
        List<World> steps = new ArrayList<>();
        World[] kept = new World[2];
        List<int[]> heard = new ArrayList<>();
        List<int[]> seen = new ArrayList<>();
        List<Long> row = new ArrayList<>();

        void row(long... numbers) {
            row.clear();
            for (long n : numbers) {
                row.add(n);
            }
        }

        void row(List<Integer> numbers) {
            row.clear();
            for (int n : numbers) {
                row.add((long) n);
            }
        }

        void step(World before) {
            steps.add(before);
            if (steps.size() > 12) {
                steps.remove(0);
            }
        }

        int done(World before, int answer) {
            if (answer >= 0) {
                step(before);
            }
            return answer;
        }

        int wishes(int one, int other) {
            return done(now.copy(), now.wishes(one, other));
        }

        int pills(int one, int n) {
            return done(now.copy(), now.pills(one, n));
        }

        int learns(int one, int v) {
            return done(now.copy(), now.learns(one, v));
        }

        int leaves(int one) {
            return done(now.copy(), now.leaves(one));
        }

        void told() {
            steps.clear();
            kept = new World[2];
        }

        String read() {
            String s = text;
            text = "";
            return s;
        }

        int people() {
            String s = read();
            if (s.isEmpty()) {
                return 0;
            }
            try {
                int room = 7 - now.size();
                limited(s, 20, t -> {
                    for (int p = 0; p < t.length() || p % 3 != 2; p++) {
                        if (p % 3 == 0 && p / 3 >= room || p >= t.length()) {
                            throw new Fault(p);
                        }
                        if (p % 3 == 2 ? t.charAt(p) != ';' : !Character.isDigit(t.charAt(p))) {
                            throw new Fault(p);
                        }
                    }
                });
            } catch (Fault f) {
                return -1 - f.at;
            }
            for (String line : s.split(";")) {
                Person p = new Person();
                p.skill = line.charAt(0) - '0';
                p.pills = line.charAt(1) - '0';
                now.all.add(p);
            }
            told();
            return s.split(";").length;
        }

        int wants() {
            String s = read();
            if (s.isEmpty()) {
                return 0;
            }
            String there = "0123456".substring(0, now.size());
            String letters = "abcdefg".substring(0, now.size());
            try {
                limited(s, 60, t -> {
                    int p = 0;
                    while (true) {
                        int who = p < t.length() ? there.indexOf(t.charAt(p)) : -1;
                        if (who < 0) {
                            throw new Fault(p);
                        }
                        p++;
                        int last = -1;
                        int found = 0;
                        while (p < t.length() && letters.indexOf(t.charAt(p)) > last
                            && letters.indexOf(t.charAt(p)) != who) {
                            last = letters.indexOf(t.charAt(p));
                            found++;
                            p++;
                        }
                        if (found == 0 || p < t.length() && t.charAt(p) != ';') {
                            throw new Fault(p);
                        }
                        if (p == t.length()) {
                            return;
                        }
                        p++;
                    }
                });
            } catch (Fault f) {
                return -1 - f.at;
            }
            for (String line : s.split(";")) {
                TreeSet<Integer> w = now.all.get(line.charAt(0) - '0').wants;
                w.clear();
                for (char c : line.substring(1).toCharArray()) {
                    w.add(c - 'a');
                }
            }
            told();
            return s.split(";").length;
        }

        int rule() {
            String s = read();
            try {
                rule = s.isEmpty() ? "s-4+w" : ruleOf(s);
                return 0;
            } catch (Fault f) {
                return -1 - f.at;
            }
        }

        int law() {
            String s = read();
            String it;
            try {
                it = s.isEmpty() ? "s-4+w" : ruleOf(s);
            } catch (Fault f) {
                return -10000 - f.at;
            }
            int a = now.wakers(it).size();
            int b = now.wakers(rule).size();
            row(a, b);
            for (int i = 0; i < now.size(); i++) {
                row.add((long) bits(now.needers(it, i, now.wanting(i))));
            }
            return a - b;
        }

        int week() {
            String s = read();
            List<String> acts = new ArrayList<>();
            try {
                limited(s, 60, t -> {
                    int p = 0;
                    while (p < t.length()) {
                        int start = p;
                        String letter = t.substring(p, p + 1);
                        int digits = "nl".contains(letter) ? 1 : "tps".contains(letter) ? 2 : 0;
                        if (digits == 0) {
                            throw new Fault(p);
                        }
                        p++;
                        for (int i = 0; i < digits; i++, p++) {
                            String may = letter.equals("p") && i == 1 ? "123456789" : "0123456789";
                            if (p >= t.length() || may.indexOf(t.charAt(p)) < 0) {
                                throw new Fault(p);
                            }
                        }
                        acts.add(t.substring(start, p));
                    }
                });
            } catch (Fault f) {
                return -1 - f.at;
            }
            World before = now.copy();
            int done = 0;
            for (String a : acts) {
                if (act(a) < 0) {
                    break;
                }
                done++;
            }
            if (done > 0) {
                step(before);
            }
            row(done < acts.size() ? 1 : 0, now.unmet);
            return done;
        }

        int act(String a) {
            int x = a.charAt(1) - '0';
            int y = a.length() > 2 ? a.charAt(2) - '0' : 0;
            switch (a.charAt(0)) {
                case 'n':
                    for (int i = 0; i < x; i++) {
                        now.morning(rule);
                    }
                    return 0;
                case 't': return now.wishes(x, y);
                case 'p': return now.pills(x, y);
                case 's': return now.learns(x, y);
                default: return now.leaves(x);
            }
        }

        int sheet(int kind, int n, int f, int step) {
            if (kind < 0 || kind > 3 || n > 7) {
                return -1;
            }
            if (kind < 3 && n < 0) {
                return -2;
            }
            int sum = 0;
            for (int i = 0; i < now.size(); i++) {
                int e = f + i * step;
                e = kind == 0 ? (byte) e : kind == 1 ? (short) e : e;
                e = kind == 3 || i >= n ? 0 : e < 0 ? 0 : e > 9 ? 9 : e;
                now.all.get(i).skill = e;
                sum += e;
            }
            return kind == 3 ? -3 : sum;
        }

        int mornings(int n) {
            if (n < 0 || n > 60) {
                return -1;
            }
            World before = now.copy();
            int awake = 0;
            for (int i = 0; i < n; i++) {
                awake = bits(now.morning(rule));
            }
            if (n > 0) {
                step(before);
            }
            row(now.unmet - before.unmet, count(7));
            return awake;
        }

        int undo() {
            if (steps.isEmpty()) {
                return -1;
            }
            now = steps.remove(steps.size() - 1);
            return steps.size();
        }

        int wakes() {
            TreeSet<Integer> awake = now.wakers(rule);
            row(awake.size(), now.unserved(awake));
            return bits(awake);
        }

        /** Who WAKES on each of the next n MORNINGS, and behind them. */
        List<Integer> ahead(int n) {
            World w = now.copy();
            List<Integer> all = new ArrayList<>();
            for (int i = 0; i <= n; i++) {
                all.add(bits(w.morning(rule)));
            }
            return all;
        }

        int later(int one, int n) {
            if (!now.has(one) || n < 0 || n > 99) {
                return -1;
            }
            World w = now.copy();
            int often = 0;
            for (int i = 0; i < n; i++) {
                often += w.morning(rule).contains(one) ? 1 : 0;
            }
            row(often, bits(w.wakers(rule)));
            return w.all.get(one).slept;
        }

        int when(int one) {
            if (!now.has(one)) {
                return -1;
            }
            List<Integer> on = new ArrayList<>();
            List<Integer> all = ahead(99);
            for (int i = 1; i <= 99; i++) {
                if (bit(all.get(i - 1), one) == 1) {
                    on.add(i);
                }
            }
            if (on.isEmpty()) {
                return -2;
            }
            row(on.size());
            return on.get(0);
        }

        int quiet() {
            List<Integer> on = new ArrayList<>();
            List<Integer> all = ahead(99);
            for (int i = 1; i <= 99; i++) {
                if (all.get(i - 1) == 0) {
                    on.add(i);
                }
            }
            if (on.isEmpty()) {
                return -2;
            }
            row(on.size());
            return on.get(0);
        }

        int runs(int one, int n) {
            if (!now.has(one) || n < 1 || n > 99) {
                return -1;
            }
            List<Integer> all = ahead(n);
            for (int length = n; length > 0; length--) {
                for (int from = 1; from + length - 1 <= n; from++) {
                    boolean whole = true;
                    for (int i = from; i < from + length; i++) {
                        whole &= bit(all.get(i - 1), one) == 1;
                    }
                    if (whole) {
                        row(from);
                        return length;
                    }
                }
            }
            row(0);
            return 0;
        }

        int each() {
            List<Integer> all = ahead(99);
            for (int n = 0; n <= 99; n++) {
                int woke = 0;
                for (int i = 0; i < n; i++) {
                    woke |= all.get(i);
                }
                if (woke == (1 << now.size()) - 1) {
                    row(n == 0 ? 0 : all.get(n - 1));
                    return n;
                }
            }
            return -2;
        }

        int busiest(int n) {
            if (n < 1 || n > 99) {
                return -1;
            }
            if (now.size() == 0) {
                return -2;
            }
            int[] often = new int[now.size()];
            List<Integer> all = ahead(n);
            for (int i = 0; i < n; i++) {
                for (int one = 0; one < often.length; one++) {
                    often[one] += bit(all.get(i), one);
                }
            }
            int best = 0;
            int never = 0;
            for (int one = 0; one < often.length; one++) {
                best = often[one] > often[best] ? one : best;
                never |= often[one] == 0 ? 1 << one : 0;
            }
            row(often[best], never);
            return best;
        }

        List<Integer> bestServed;
        int mostServed;

        int serves() {
            bestServed = null;
            mostServed = -1;
            match(new ArrayList<>(), bits(now.wakers(rule)), 0);
            row(bestServed);
            return mostServed;
        }

        void match(List<Integer> by, int free, int served) {
            if (by.size() == now.size()) {
                if (served > mostServed || served == mostServed && less(by, bestServed)) {
                    mostServed = served;
                    bestServed = new ArrayList<>(by);
                }
                return;
            }
            int one = by.size();
            for (int i = -1; i < now.size(); i++) {
                if (i < 0 || bit(free, i) == 1 && now.wants(one, i)) {
                    by.add(i);
                    match(by, i < 0 ? free : free & ~(1 << i), i < 0 ? served : served + 1);
                    by.remove(by.size() - 1);
                }
            }
        }

        int boot() {
            int awake = bits(now.wakers(rule));
            for (int size = 1; size <= now.size(); size++) {
                for (int set = 0; set < 1 << now.size(); set++) {
                    boolean allWant = true;
                    int wanted = 0;
                    for (int i = 0; i < now.size(); i++) {
                        if (bit(set, i) == 1) {
                            allWant &= !now.all.get(i).wants.isEmpty();
                            wanted |= bits(now.all.get(i).wants);
                        }
                    }
                    if (Integer.bitCount(set) == size && allWant && Integer.bitCount(wanted & awake) < size) {
                        row(set, wanted & awake);
                        return size;
                    }
                }
            }
            return -2;
        }

        int enough() {
            int awake = bits(now.wakers(rule));
            for (int size = 0; size <= now.size(); size++) {
                for (int set = 0; set < 1 << now.size(); set++) {
                    boolean good = (set & awake) == set && Integer.bitCount(set) == size;
                    for (Person p : now.all) {
                        good &= (bits(p.wants) & awake) == 0 || (bits(p.wants) & set) != 0;
                    }
                    if (good) {
                        row(set);
                        return size;
                    }
                }
            }
            return -99;
        }

        boolean wakesTurned(int one, int... turned) {
            World w = now.copy();
            for (int t : turned) {
                if (w.wishes(t / 7, t % 7) < 0) {
                    return false;
                }
            }
            return w.wakes(rule, one);
        }

        int steps(int one) {
            if (!now.has(one)) {
                return -1;
            }
            if (wakesTurned(one)) {
                row();
                return 0;
            }
            for (int i = 0; i < 49; i++) {
                if (wakesTurned(one, i)) {
                    row(i);
                    return 1;
                }
            }
            for (int i = 0; i < 49; i++) {
                for (int k = i + 1; k < 49; k++) {
                    if (wakesTurned(one, i, k)) {
                        row(i, k);
                        return 2;
                    }
                }
            }
            return -2;
        }

        int sleeps(int one) {
            if (!now.has(one)) {
                return -1;
            }
            for (int size = 0; size <= 7; size++) {
                for (int set = 0; set < 128; set++) {
                    World w = now.copy();
                    boolean all = true;
                    for (int i = 0; i < 7; i++) {
                        all &= bit(set, i) == 0 || now.has(i) && w.all.get(i).wants.remove(one);
                    }
                    if (all && Integer.bitCount(set) == size && !w.wakes(rule, one)) {
                        row(set);
                        return size;
                    }
                }
            }
            return -99;
        }

        int worth(int one) {
            if (!now.has(one)) {
                return -1;
            }
            List<Integer> by = new ArrayList<>();
            for (int s = 0; s <= 9; s++) {
                World w = now.copy();
                w.all.get(one).skill = s;
                if (w.wakes(rule, one)) {
                    by.add(s);
                }
            }
            if (by.isEmpty()) {
                return -2;
            }
            row(by.size());
            return by.get(0);
        }

        int spares() {
            int best = -2;
            int fewest = 99;
            for (int i = 0; i < now.size(); i++) {
                World w = now.copy();
                w.leaves(i);
                int n = w.unserved(w.wakers(rule));
                if (n < fewest) {
                    fewest = n;
                    best = i;
                }
            }
            if (best >= 0) {
                row(fewest, now.unserved(now.wakers(rule)));
            }
            return best;
        }

        /** All rows from one on, each wanted by the one ahead, none twice. */
        List<List<Integer>> rowsFrom(int one) {
            List<List<Integer>> all = new ArrayList<>();
            all.add(new ArrayList<>(List.of(one)));
            for (int i = 0; i < all.size(); i++) {
                List<Integer> r = all.get(i);
                for (int next : now.all.get(r.get(r.size() - 1)).wants) {
                    if (!r.contains(next)) {
                        List<Integer> longer = new ArrayList<>(r);
                        longer.add(next);
                        all.add(longer);
                    }
                }
            }
            return all;
        }

        int follows(int one) {
            if (!now.has(one)) {
                return -1;
            }
            List<Integer> best = new ArrayList<>();
            for (List<Integer> r : rowsFrom(one)) {
                if (r.size() > best.size() || r.size() == best.size() && less(r, best)) {
                    best = r;
                }
            }
            row(best);
            return best.size();
        }

        int ring() {
            List<Integer> best = null;
            for (int one = 0; one < now.size(); one++) {
                for (List<Integer> r : rowsFrom(one)) {
                    boolean least = true;
                    for (int i : r) {
                        least &= i >= one;
                    }
                    boolean closes = r.size() > 1 && now.wants(r.get(r.size() - 1), one);
                    if (least && closes && (best == null || r.size() < best.size()
                        || r.size() == best.size() && less(r, best))) {
                        best = r;
                    }
                }
            }
            if (best == null) {
                return -2;
            }
            row(best);
            return best.size();
        }

        int friends() {
            for (int size = now.size(); size >= 0; size--) {
                int sets = 0;
                int least = 0;
                for (int set = (1 << now.size()) - 1; set >= 0; set--) {
                    boolean all = Integer.bitCount(set) == size;
                    for (int i = 0; i < now.size(); i++) {
                        for (int k = 0; k < now.size(); k++) {
                            all &= i == k || bit(set, i) == 0 || bit(set, k) == 0 || now.wants(i, k);
                        }
                    }
                    if (all) {
                        sets++;
                        least = set;
                    }
                }
                if (sets > 0) {
                    row(least, sets);
                    return size;
                }
            }
            return -99;
        }

        int way(int from, int to) {
            if (!now.has(from) || !now.has(to)) {
                return -1;
            }
            List<Integer> best = null;
            for (List<Integer> r : rowsFrom(from)) {
                if (r.get(r.size() - 1) == to && (best == null || r.size() < best.size()
                    || r.size() == best.size() && less(r, best))) {
                    best = r;
                }
            }
            if (best == null) {
                return -2;
            }
            row(best);
            return best.size() - 1;
        }

        boolean mayHear(int what, int v) {
            int[] most = {9, 99, 1, 6, 6};
            return what >= 0 && what <= 4 && v >= 0 && v <= most[what];
        }

        int heard(int what, int v) {
            if (!mayHear(what, v) || heard.size() == 12) {
                return -1;
            }
            heard.add(new int[] {what, v});
            return heard.size();
        }

        boolean isSo(int one, int what, int v) {
            Person p = now.all.get(one);
            switch (what) {
                case 0: return p.skill >= v;
                case 1: return p.slept <= v;
                case 2: return now.wakes(rule, one) == (v == 1);
                case 3: return p.wants.contains(v);
                default: return now.wanting(one).contains(v);
            }
        }

        List<Integer> fitting() {
            List<Integer> all = new ArrayList<>();
            for (int i = 0; i < now.size(); i++) {
                boolean fits = true;
                for (int[] h : heard) {
                    fits &= isSo(i, h[0], h[1]);
                }
                if (fits) {
                    all.add(i);
                }
            }
            return all;
        }

        int fits() {
            row(fitting().size());
            return bits(fitting());
        }

        int asks() {
            List<Integer> fitting = fitting();
            if (fitting.isEmpty()) {
                return -2;
            }
            int best = -1;
            int fewest = 99;
            for (int what : new int[] {0, 2, 3, 4}) {
                for (int v = 0; mayHear(what, v); v++) {
                    int so = 0;
                    for (int one : fitting) {
                        so += isSo(one, what, v) ? 1 : 0;
                    }
                    int left = Math.max(so, fitting.size() - so);
                    if (left < fewest) {
                        fewest = left;
                        best = 10 * what + v;
                    }
                }
            }
            row(fewest);
            return best;
        }

        int saw(int s, int w, int is) {
            if (s < 0 || s > 9 || w < 0 || w > 6 || is < 0 || is > 1 || seen.size() == 10) {
                return -1;
            }
            seen.add(new int[] {s, w, is});
            return seen.size();
        }

        List<int[]> fittingLaws() {
            List<int[]> all = new ArrayList<>();
            for (int a = 0; a <= 3; a++) {
                for (int b = 0; b <= 3; b++) {
                    for (int c = 0; c <= 9; c++) {
                        boolean fits = true;
                        for (int[] o : seen) {
                            fits &= (a * o[0] + b * o[1] > c) == (o[2] == 1);
                        }
                        if (fits) {
                            all.add(new int[] {a, b, c});
                        }
                    }
                }
            }
            return all;
        }

        int laws() {
            List<int[]> all = fittingLaws();
            if (all.isEmpty()) {
                row();
            } else {
                row(all.get(0)[0], all.get(0)[1], all.get(0)[2]);
            }
            return all.size();
        }

        int looks() {
            List<int[]> all = fittingLaws();
            if (all.isEmpty()) {
                return -2;
            }
            int best = -1;
            int fewest = 999;
            for (int s = 0; s <= 9; s++) {
                for (int w = 0; w <= 6; w++) {
                    int yes = 0;
                    for (int[] l : all) {
                        yes += l[0] * s + l[1] * w > l[2] ? 1 : 0;
                    }
                    int left = Math.max(yes, all.size() - yes);
                    if (left < fewest) {
                        fewest = left;
                        best = 10 * s + w;
                    }
                }
            }
            row(fewest);
            return best;
        }

        int odds(int one, int p) {
            if (!now.has(one) || p < 0 || p > 10) {
                return -1;
            }
            List<Integer> wanting = new ArrayList<>(now.wanting(one));
            long upper = 0;
            long lower = 1;
            for (int i = 0; i < wanting.size(); i++) {
                lower *= 10;
            }
            for (int set = 0; set < 1 << wanting.size(); set++) {
                TreeSet<Integer> who = new TreeSet<>();
                long part = 1;
                for (int i = 0; i < wanting.size(); i++) {
                    part *= bit(set, i) == 1 ? p : 10 - p;
                    if (bit(set, i) == 1) {
                        who.add(wanting.get(i));
                    }
                }
                boolean wakes = now.all.get(one).pills == 0 && !now.needers(rule, one, who).isEmpty();
                upper += wakes ? part : 0;
            }
            long common = java.math.BigInteger.valueOf(upper).gcd(java.math.BigInteger.valueOf(lower)).longValue();
            row(upper / common, lower / common);
            return 0;
        }

        int great(int n) {
            int g = 1;
            while (g * 2 <= n && g < 32) {
                g *= 2;
            }
            return g;
        }

        boolean[] won = new boolean[61];

        int vigil(int n) {
            if (n < 0 || n > 60) {
                return -1;
            }
            for (int i = 1; i <= 60; i++) {
                won[i] = !won[i - 1] || !won[i - great(i)];
            }
            if (!won[n]) {
                row();
                return 0;
            }
            row(!won[n - 1] ? 1 : great(n));
            return 1;
        }

        int has(int x, int y, int v) {
            int all = 0;
            for (int hour = 1; hour <= x; hour++) {
                all += 2;
            }
            if (!(x > y)) {
                all += v;
            }
            for (int hour = 9; hour <= x + y; hour++) {
                all--;
            }
            return all;
        }

        int rests(int v) {
            if (v < 0 || v > 20) {
                return -1;
            }
            List<int[]> all = new ArrayList<>();
            for (int x = 0; x <= 9; x++) {
                for (int y = 0; y <= 9; y++) {
                    boolean still = true;
                    for (int z = 0; z <= 9; z++) {
                        still &= has(z, y, v) <= has(x, y, v) && has(z, x, v) <= has(y, x, v);
                    }
                    if (still) {
                        all.add(new int[] {x, y});
                    }
                }
            }
            if (all.isEmpty()) {
                row();
            } else {
                row(all.get(0)[0], all.get(0)[1]);
            }
            return all.size();
        }

        long lot;

        int draw(int n) {
            lot = lot * 1103515245L + 12345L & 0xffffffffL;
            return (int) (lot / 65536 % n);
        }

        int years(int seed, int n) {
            if (n < 1 || n > 60) {
                return -1;
            }
            World w = now.copy();
            lot = seed & 0xffffffffL;
            int woke = 0;
            for (int i = 0; i < n; i++) {
                int tells = draw(4);
                if (tells < 2) {
                    woke += w.morning(rule).size();
                } else if (w.size() > 0 && tells == 2) {
                    int one = draw(w.size());
                    int other = draw(w.size());
                    w.wishes(one, other);
                } else if (w.size() > 0) {
                    int one = draw(w.size());
                    w.all.get(one).skill = draw(10);
                }
            }
            row(w.unmet - now.unmet, bits(w.wakers(rule)));
            return woke;
        }

        int keep(int i) {
            if (i < 0 || i > 1) {
                return 0;
            }
            kept[i] = now.copy();
            return 1;
        }

        int again(int i) {
            if (i < 0 || i > 1 || kept[i] == null) {
                return 0;
            }
            now = kept[i].copy();
            steps.clear();
            return 1;
        }

        int count(int what) {
            int[] sums = new int[4];
            for (Person p : now.all) {
                sums[0] += p.skill;
                sums[1] += p.pills;
                sums[2] += p.slept;
                sums[3] += p.woken;
            }
            int[] all = {now.size(), now.day, now.unmet, now.wantsOfAll(), sums[0], sums[1], sums[2], sums[3],
                heard.size(), seen.size(), steps.size(), row.size(), text.length()};
            return what < 0 || what >= all.length ? -1 : all[what];
        }

        int one(int one, int what) {
            Person p = now.all.get(one);
            switch (what) {
                case 0: return p.skill;
                case 1: return p.pills;
                case 2: return p.slept;
                case 3: return p.woken;
                case 4: return bits(p.wants);
                case 5: return bits(now.wanting(one));
                default: return bits(now.needers(rule, one, now.wanting(one)));
            }
        }
    }

    /** One run: the class and the model are asked the same. */
    private static final class Run {
        final Random random;
        final BellForWanted x = new BellForWanted();
        final Model m = new Model();
        final StringBuilder told = new StringBuilder();

        Run(int seed) {
            random = new Random(seed);
        }

        int upTo(int n) {
            return random.nextInt(n + 1);
        }

        /** Mostly inside 0 .. n, now and then at its edges or outside. */
        int about(int n) {
            int way = upTo(19);
            return way == 0 ? -1 : way == 1 ? n + 1 : way == 2 ? n : way == 3 ? 0 : upTo(n);
        }

        int anyOne() {
            return m.now.size() == 0 ? about(1) : about(m.now.size() - 1);
        }

        boolean isRight() {
            if (upTo(9) > 0 && !begins()) {
                return false;
            }
            for (int i = 0; i < CALLS; i++) {
                if (!call()) {
                    System.out.println("behind:" + told);
                    return false;
                }
            }
            return true;
        }

        boolean begins() {
            StringBuilder s = new StringBuilder();
            int n = upTo(7);
            for (int i = 0; i < n; i++) {
                s.append(i > 0 ? ";" : "").append(upTo(9)).append(upTo(2) == 0 ? upTo(9) : 0);
            }
            tell(s.toString());
            boolean right = same("people", x.people(), m.people());
            tell(wantsText());
            return right && same("wants", x.wants(), m.wants());
        }

        void tell(String s) {
            told.append(" \"").append(s).append('"');
            Check.text(x, s);
            m.text = s;
        }

        String wantsText() {
            StringBuilder s = new StringBuilder();
            int n = m.now.size();
            for (int i = 0; i < n; i++) {
                StringBuilder letters = new StringBuilder();
                for (int k = 0; k < n; k++) {
                    if (k != i && upTo(2) == 0) {
                        letters.append((char) ('a' + k));
                    }
                }
                if (letters.length() > 0) {
                    s.append(s.length() > 0 ? ";" : "").append(i).append(letters);
                }
            }
            return s.toString();
        }

        String expression(int depth) {
            int way = upTo(11);
            if (depth == 0 || way < 4) {
                int thing = upTo(9);
                return thing < 7 ? "stwvubn".substring(thing, thing + 1) : Integer.toString(upTo(thing == 7 ? 999 : 9));
            }
            if (way == 4) {
                return "-" + expression(depth - 1);
            }
            if (way == 5) {
                return "(" + expression(depth - 1) + ")";
            }
            String operators = "+-*/+-*/<>=";
            int o = upTo(operators.length() - 1);
            return expression(depth - 1) + operators.charAt(o) + expression(depth - 1);
        }

        String weekText() {
            StringBuilder s = new StringBuilder();
            for (int i = upTo(8); i > 0; i--) {
                int n = Math.max(0, m.now.size() - 1);
                switch (upTo(4)) {
                    case 0: s.append('n').append(upTo(9)); break;
                    case 1: s.append('t').append(upTo(n)).append(upTo(n)); break;
                    case 2: s.append('p').append(upTo(n)).append(1 + upTo(3)); break;
                    case 3: s.append('s').append(upTo(n)).append(upTo(9)); break;
                    default: s.append('l').append(upTo(n)); break;
                }
            }
            return s.toString();
        }

        String peopleText() {
            StringBuilder s = new StringBuilder();
            for (int i = upTo(3); i >= 0; i--) {
                s.append(upTo(9)).append(upTo(2)).append(i > 0 ? ";" : "");
            }
            return s.toString();
        }

        /** Now and then a sign of a text is another one, is gone, or the text comes many times. */
        String spoilt(String s) {
            String signs = "0123456789abcdefgnstpwvub;+-*/<>=()xyz \0";
            StringBuilder t = new StringBuilder(s);
            int way = upTo(9);
            if (way == 0 && t.length() > 0) {
                t.setCharAt(upTo(t.length() - 1), signs.charAt(upTo(signs.length() - 1)));
            } else if (way == 1 && t.length() > 0) {
                t.deleteCharAt(upTo(t.length() - 1));
            } else if (way == 2) {
                t.insert(upTo(t.length()), signs.charAt(upTo(signs.length() - 1)));
            } else if (way == 3 && t.length() > 0) {
                String joint = ";+ ".substring(upTo(2)).substring(0, 1).trim();
                while (t.length() < 80) {
                    t.append(joint).append(s);
                }
            }
            return t.length() > 80 ? t.substring(0, 80) : t.toString();
        }

        boolean same(String call, long got, long want) {
            told.append(' ').append(call).append(" -> ").append(got);
            List<Long> row = new ArrayList<>();
            for (int i = 0; i < x.count(11); i++) {
                row.add(x.row(i));
            }
            boolean right = got == want && row.equals(m.row);
            if (!right) {
                System.out.println(call + " answered " + got + " with " + row + ", due is " + want + " with " + m.row);
            }
            return right && sameState(call);
        }

        boolean sameState(String call) {
            for (int what = -1; what <= 13; what++) {
                if (x.count(what) != m.count(what)) {
                    System.out.println("behind " + call + " count(" + what + ") answered " + x.count(what)
                        + ", due is " + m.count(what));
                    return false;
                }
            }
            for (int one = 0; one < m.now.size(); one++) {
                for (int what = 0; what <= 6; what++) {
                    if (x.one(one, what) != m.one(one, what)) {
                        System.out.println("behind " + call + " one(" + one + ", " + what + ") answered "
                            + x.one(one, what) + ", due is " + m.one(one, what));
                        return false;
                    }
                }
            }
            return !(Check.oneThrows(x, 0, 0) ^ m.now.size() == 0);
        }

        boolean call() {
            int a = anyOne();
            int b = anyOne();
            int n;
            int v;
            switch (upTo(49)) {
                case 0: tell(spoilt(upTo(3) == 0 ? "" : peopleText())); return same("people", x.people(), m.people());
                case 1: tell(spoilt(wantsText())); return same("wants", x.wants(), m.wants());
                case 2: tell(spoilt(upTo(9) == 0 ? "" : expression(4))); return same("rule", x.rule(), m.rule());
                case 3:
                    n = about(7);
                    v = upTo(2) == 0 ? random.nextInt() : about(12);
                    int step = upTo(2) == 0 ? random.nextInt() : upTo(4) - 2;
                    int kind = about(3);
                    return same("sheet " + kind + " " + n + " " + v + " " + step,
                        x.sheet(kind, n, v, step), m.sheet(kind, n, v, step));
                case 4: case 5: n = upTo(1) == 0 ? about(60) : upTo(4);
                    return same("mornings " + n, x.mornings(n), m.mornings(n));
                case 6: case 7: return same("wishes " + a + " " + b, x.wishes(a, b), m.wishes(a, b));
                case 8: n = about(9); return same("pills " + a + " " + n, x.pills(a, n), m.pills(a, n));
                case 9: n = about(9); return same("learns " + a + " " + n, x.learns(a, n), m.learns(a, n));
                case 10: return upTo(2) > 0 || same("leaves " + a, x.leaves(a), m.leaves(a));
                case 11: tell(spoilt(weekText())); return same("week", x.week(), m.week());
                case 12: case 13: return same("undo", x.undo(), m.undo());
                case 14: return same("wakes", x.wakes(), m.wakes());
                case 15: n = about(99); return same("later " + a + " " + n, x.later(a, n), m.later(a, n));
                case 16: return same("when " + a, x.when(a), m.when(a));
                case 17: return same("quiet", x.quiet(), m.quiet());
                case 18: n = about(99); return same("runs " + a + " " + n, x.runs(a, n), m.runs(a, n));
                case 19: return same("each", x.each(), m.each());
                case 20: n = about(99); return same("busiest " + n, x.busiest(n), m.busiest(n));
                case 21: return same("serves", x.serves(), m.serves());
                case 22: return same("boot", x.boot(), m.boot());
                case 23: return same("enough", x.enough(), m.enough());
                case 24: return same("steps " + a, x.steps(a), m.steps(a));
                case 25: return same("sleeps " + a, x.sleeps(a), m.sleeps(a));
                case 26: return same("worth " + a, x.worth(a), m.worth(a));
                case 27: return same("spares", x.spares(), m.spares());
                case 28: return same("follows " + a, x.follows(a), m.follows(a));
                case 29: return same("ring", x.ring(), m.ring());
                case 30: return same("friends", x.friends(), m.friends());
                case 31: return same("way " + a + " " + b, x.way(a, b), m.way(a, b));
                case 32: case 33:
                    n = about(4);
                    v = n == 1 ? about(99) : n == 2 ? about(1) : n > 2 ? about(6) : about(9);
                    return same("heard " + n + " " + v, x.heard(n, v), m.heard(n, v));
                case 34:
                    int heard = m.heard.size();
                    m.heard.clear();
                    return same("forget", x.forget(), heard);
                case 35: return same("fits", x.fits(), m.fits());
                case 36: return same("asks", x.asks(), m.asks());
                case 37: case 38:
                    n = about(9);
                    v = about(6);
                    int is = about(1);
                    return same("saw " + n + " " + v + " " + is, x.saw(n, v, is), m.saw(n, v, is));
                case 39:
                    int seen = m.seen.size();
                    m.seen.clear();
                    return same("denies", x.denies(), seen);
                case 40: return same("laws", x.laws(), m.laws());
                case 41: return same("looks", x.looks(), m.looks());
                case 42: n = about(10); return same("odds " + a + " " + n, x.odds(a, n), m.odds(a, n));
                case 43: n = about(60); return same("vigil " + n, x.vigil(n), m.vigil(n));
                case 44: n = about(20); return same("rests " + n, x.rests(n), m.rests(n));
                case 45: tell(spoilt(upTo(9) == 0 ? "" : expression(4))); return same("law", x.law(), m.law());
                case 46: n = about(60); v = random.nextInt();
                    return same("years " + v + " " + n, x.years(v, n), m.years(v, n));
                case 47: n = about(1); return same("keep " + n, x.keep(n) ? 1 : 0, m.keep(n));
                case 48: n = about(1); return same("again " + n, x.again(n) ? 1 : 0, m.again(n));
                default: return signs();
            }
        }

        boolean signs() {
            int n = about(80);
            boolean cut = n >= 0 && n <= m.text.length();
            if (upTo(1) == 0) {
                m.text = cut ? m.text.substring(0, n) : m.text;
                return same("end " + n, x.end(n) ? 1 : 0, cut ? 1 : 0);
            }
            int v = random.nextInt();
            boolean room = m.text.length() + 4 <= 80;
            for (int shift = 24; room && shift >= 0; shift -= 8) {
                m.text += (char) (v >>> shift & 255);
            }
            return same("sign " + v, x.sign(v), room ? m.text.length() : -1);
        }
    }
}
