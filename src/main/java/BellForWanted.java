import java.util.NoSuchElementException;

/**
 * The chapel bell that wakes those who are wanted: the numbered promises of DOC.md say what each call answers.
 * Every row is made with the object and used again, because what a run makes is counted.
 */
public final class BellForWanted {
    public static final int NONE = -1;

    private static final int NEVER = -2;
    private static final int MISSING = -3;
    private static final int LAW_FAULT = -10000;
    private static final int MOST_PEOPLE = 7;
    private static final int MOST_SETS = 1 << MOST_PEOPLE;
    private static final int MOST_WANTS = MOST_PEOPLE * MOST_PEOPLE;
    private static final int TEXT_SIGNS = 80;
    private static final int PEOPLE_SIGNS = 20;
    private static final int WANTS_SIGNS = 60;
    private static final int WEEK_SIGNS = 60;
    private static final int RULE_SIGNS = 40;
    private static final int MOST_SKILL = 9;
    private static final int MOST_PILLS = 9;
    private static final int MOST_SLEPT = 99;
    private static final int MOST_WOKEN = 999;
    private static final int MOST_UNMET = 9999;
    private static final int MOST_MORNINGS = 60;
    private static final int AHEAD = 99;
    private static final int MOST_HOURS = 60;
    private static final char[] USUAL = {'s', '-', '4', '+', 'w'};

    private final Signs text = new Signs();
    private final Numbers told = new Numbers();
    private final Folk folk = new Folk();
    private final Folk trial = new Folk();
    private final Past past = new Past();
    private final RuleReader reader = new RuleReader();
    private Rule inForce = new Rule();
    private Rule spare = new Rule();
    private final Service service = new Service();
    private final Paths paths = new Paths();
    private final Hearsay hearsay = new Hearsay();
    private final Sightings sightings = new Sightings();
    private int drawn = 0;

    public BellForWanted() {
        reader.faultIn(USUAL, USUAL.length, inForce);
    }

    // ---- people, wants

    public int sign(int v) {
        return text.takes(v) ? text.size : NONE;
    }

    public boolean end(int n) {
        return text.cutsTo(n);
    }

    public int people() {
        int size = text.size;
        int fault = size == 0 ? NONE : text.peopleFault(MOST_PEOPLE - folk.number);
        if (fault >= 0) {
            text.empties();
            return -1 - fault;
        }
        int lines = (size + 1) / 3;
        for (int i = 0; i < lines; i++) {
            folk.comes(text.digitAt(3 * i), text.digitAt(3 * i + 1));
        }
        if (lines > 0) {
            past.forgetsAll();
        }
        text.empties();
        return lines;
    }

    public int wants() {
        int size = text.size;
        int fault = size == 0 ? NONE : text.wantsFault(folk.number);
        if (fault >= 0) {
            text.empties();
            return -1 - fault;
        }
        int lines = 0;
        int who = NONE;
        for (int p = 0; p < size; p++) {
            int digit = text.digitAt(p);
            if (digit >= 0) {
                lines++;
                who = digit;
                folk.wantsNobody(who);
            } else if (text.at(p) != ';') {
                folk.wantsToo(who, text.at(p) - 'a');
            }
        }
        if (lines > 0) {
            past.forgetsAll();
        }
        text.empties();
        return lines;
    }

    public int rule() {
        int fault = readsSpare();
        if (fault >= 0) {
            return -1 - fault;
        }
        Rule read = spare;
        spare = inForce;
        inForce = read;
        return 0;
    }

    /** Reads THE TEXT into the spare rule, so that a fault leaves THE RULE as it is: where the fault is, or NONE. */
    private int readsSpare() {
        int fault = text.size == 0
            ? reader.faultIn(USUAL, USUAL.length, spare)
            : reader.faultIn(text.signs, text.size, spare);
        text.empties();
        return fault;
    }

    public int one(int one, int what) throws NoSuchElementException {
        if (!folk.has(one) || what < 0 || what > 6) {
            throw new NoSuchElementException();
        }
        switch (what) {
            case 0: return folk.skill[one];
            case 1: return folk.pills[one];
            case 2: return folk.slept[one];
            case 3: return folk.woken[one];
            case 4: return folk.wanted[one];
            case 5: return folk.wanting(one);
            default: return inForce.needers(folk, one, folk.wanting(one));
        }
    }

    public int sheet(int kind, int n, int f, int step) {
        if (kind < 0 || kind > 3 || n > MOST_PEOPLE) {
            return NONE;
        }
        if (kind == 3) {
            folk.skillsFrom(3, 0, 0, 0);
            return MISSING;
        }
        if (n < 0) {
            return NEVER;
        }
        folk.skillsFrom(kind, n, f, step);
        return folk.sum(folk.skill);
    }

    // ---- mornings, wants, pills

    public int mornings(int n) {
        if (n < 0 || n > MOST_MORNINGS) {
            return NONE;
        }
        past.marks(folk);
        int before = folk.unmet;
        int awake = goBy(folk, n);
        if (n > 0) {
            past.keepsMark();
        }
        told.tellsBoth(folk.unmet - before, folk.sum(folk.woken));
        return awake;
    }

    public int wishes(int one, int other) {
        past.marks(folk);
        return done(folk.turns(one, other));
    }

    public int pills(int one, int n) {
        past.marks(folk);
        return done(folk.takesPills(one, n));
    }

    public int learns(int one, int v) {
        past.marks(folk);
        return done(folk.becomesSkilled(one, v));
    }

    public int leaves(int one) {
        past.marks(folk);
        return done(folk.isRidOf(one));
    }

    public int week() {
        int fault = text.weekFault();
        if (fault >= 0) {
            text.empties();
            return -1 - fault;
        }
        past.marks(folk);
        int acts = 0;
        int stuck = 0;
        int p = 0;
        for (int i = 0; i < WEEK_SIGNS && p < text.size && stuck == 0; i++) {
            if (act(p) < 0) {
                stuck = 1;
            } else {
                acts++;
            }
            p += 1 + Signs.digitsOf(text.at(p));
        }
        text.empties();
        if (acts > 0) {
            past.keepsMark();
        }
        told.tellsBoth(stuck, folk.unmet);
        return acts;
    }

    public int undo() {
        return past.comesBack(folk) ? past.size : NONE;
    }

    /** What the ACT at p of THE TEXT answers, done. */
    private int act(int p) {
        int first = text.digitAt(p + 1);
        int second = text.digitAt(p + 2);
        switch (text.at(p)) {
            case 'n': return goBy(folk, first);
            case 't': return folk.turns(first, second);
            case 'p': return folk.takesPills(first, second);
            case 's': return folk.becomesSkilled(first, second);
            default: return folk.isRidOf(first);
        }
    }

    /** An act that can't be done has changed nothing, so its mark is not kept. */
    private int done(int answer) {
        if (answer >= 0) {
            past.keepsMark();
        }
        return answer;
    }

    /** So many MORNINGS go by for these: who WOKE on the last of them. */
    private int goBy(Folk some, int n) {
        int awake = 0;
        for (int i = 0; i < n; i++) {
            awake = inForce.wakers(some);
            some.passMorning(awake);
        }
        return awake;
    }

    // ---- who wakes

    public int wakes() {
        int awake = inForce.wakers(folk);
        told.tellsBoth(Integer.bitCount(awake), folk.unserved(awake));
        return awake;
    }

    public int later(int one, int n) {
        if (!folk.has(one) || n < 0 || n > AHEAD) {
            return NONE;
        }
        trial.becomes(folk);
        int often = 0;
        for (int i = 0; i < n; i++) {
            often += (goBy(trial, 1) >> one) & 1;
        }
        told.tellsBoth(often, inForce.wakers(trial));
        return trial.slept[one];
    }

    public int when(int one) {
        return folk.has(one) ? tellsMornings(1 << one) : NONE;
    }

    public int quiet() {
        return tellsMornings(0);
    }

    /** The first MORNING on which some of this set WAKE, or of no set: on which nobody does. */
    private int tellsMornings(int set) {
        trial.becomes(folk);
        int first = NEVER;
        int often = 0;
        for (int i = 1; i <= AHEAD; i++) {
            int awake = goBy(trial, 1);
            if (set == 0 ? awake == 0 : (awake & set) != 0) {
                first = often == 0 ? i : first;
                often++;
            }
        }
        if (often > 0) {
            told.tellsOne(often);
        }
        return first;
    }

    public int runs(int one, int n) {
        if (!folk.has(one) || n < 1 || n > AHEAD) {
            return NONE;
        }
        trial.becomes(folk);
        int longest = 0;
        int from = 0;
        int run = 0;
        for (int i = 1; i <= n; i++) {
            run = ((goBy(trial, 1) >> one) & 1) != 0 ? run + 1 : 0;
            if (run > longest) {
                longest = run;
                from = i - run + 1;
            }
        }
        told.tellsOne(from);
        return longest;
    }

    public int each() {
        trial.becomes(folk);
        int sleeping = folk.everybody();
        int awake = 0;
        int mornings = 0;
        for (int i = 1; i <= AHEAD && sleeping != 0; i++) {
            awake = goBy(trial, 1);
            sleeping &= ~awake;
            mornings = i;
        }
        if (sleeping != 0) {
            return NEVER;
        }
        told.tellsOne(awake);
        return mornings;
    }

    public int busiest(int n) {
        if (n < 1 || n > AHEAD) {
            return NONE;
        }
        if (folk.number == 0) {
            return NEVER;
        }
        trial.becomes(folk);
        trial.restsWoken();
        int never = folk.everybody();
        for (int i = 0; i < n; i++) {
            never &= ~goBy(trial, 1);
        }
        int best = trial.mostWoken();
        told.tellsBoth(trial.has(best) ? trial.woken[best] : 0, never);
        return best;
    }

    // ---- who serves whom

    public int serves() {
        return service.tellsServed(folk, inForce.wakers(folk), told);
    }

    public int boot() {
        int awake = inForce.wakers(folk);
        int set = Service.tooMany(folk, awake);
        if (set == 0) {
            return NEVER;
        }
        told.tellsBoth(set, folk.wantedBy(set) & awake);
        return Integer.bitCount(set);
    }

    public int enough() {
        int set = Service.fewest(folk, inForce.wakers(folk));
        told.tellsOne(set);
        return Integer.bitCount(set);
    }

    // ---- making oneself wanted

    public int steps(int one) {
        if (!folk.has(one)) {
            return NONE;
        }
        trial.becomes(folk);
        if (inForce.rouses(trial, one, trial.wanting(one))) {
            told.clears();
            return 0;
        }
        int want = stepFrom(one, 0);
        if (want >= 0) {
            told.tellsOne(want);
            return 1;
        }
        return twoSteps(one);
    }

    /** Two WANTS that rouse one; none does by itself, as is known. */
    private int twoSteps(int one) {
        for (int want = 0; want < MOST_WANTS; want++) {
            if (turnsTrial(want)) {
                int second = stepFrom(one, want + 1);
                turnsTrial(want);
                if (second >= 0) {
                    told.tellsBoth(want, second);
                    return 2;
                }
            }
        }
        return NEVER;
    }

    /** The least of the WANTS from this one on that rouses one in the trial, or NONE. */
    private int stepFrom(int one, int from) {
        for (int want = from; want < MOST_WANTS; want++) {
            if (turnsTrial(want)) {
                boolean awake = inForce.rouses(trial, one, trial.wanting(one));
                turnsTrial(want);
                if (awake) {
                    return want;
                }
            }
        }
        return NONE;
    }

    /** A want is told by 7 times who and whom; false: there is none such. */
    private boolean turnsTrial(int want) {
        return trial.turns(want / MOST_PEOPLE, want % MOST_PEOPLE) >= 0;
    }

    public int sleeps(int one) {
        if (!folk.has(one)) {
            return NONE;
        }
        int wanting = folk.wanting(one);
        int best = wanting;
        for (int set = 0; set < MOST_SETS; set++) {
            boolean fewer = (set & ~wanting) == 0 && Integer.bitCount(set) < Integer.bitCount(best);
            if (fewer && !inForce.rouses(folk, one, wanting & ~set)) {
                best = set;
            }
        }
        told.tellsOne(best);
        return Integer.bitCount(best);
    }

    public int worth(int one) {
        if (!folk.has(one)) {
            return NONE;
        }
        trial.becomes(folk);
        int least = NEVER;
        int often = 0;
        for (int skill = 0; skill <= MOST_SKILL; skill++) {
            trial.skill[one] = skill;
            if (inForce.rouses(trial, one, trial.wanting(one))) {
                least = often == 0 ? skill : least;
                often++;
            }
        }
        if (often > 0) {
            told.tellsOne(often);
        }
        return least;
    }

    public int spares() {
        int best = NEVER;
        int fewest = MOST_PEOPLE + 1;
        for (int one = 0; one < folk.number; one++) {
            trial.becomes(folk);
            trial.isRidOf(one);
            int left = trial.unserved(inForce.wakers(trial));
            if (left < fewest) {
                fewest = left;
                best = one;
            }
        }
        if (best >= 0) {
            told.tellsBoth(fewest, folk.unserved(inForce.wakers(folk)));
        }
        return best;
    }

    // ---- whom to follow

    public int follows(int one) {
        return folk.has(one) ? paths.tellsLongest(folk, one, told) : NONE;
    }

    public int ring() {
        return paths.tellsRing(folk, told);
    }

    public int friends() {
        int most = NONE;
        int least = 0;
        int sets = 0;
        for (int set = 0; set <= folk.everybody(); set++) {
            int size = Integer.bitCount(set);
            if (size >= most && folk.areFriends(set)) {
                least = size > most ? set : least;
                sets = size > most ? 1 : sets + 1;
                most = size;
            }
        }
        told.tellsBoth(least, sets);
        return most;
    }

    public int way(int from, int to) {
        return folk.has(from) && folk.has(to) ? paths.tellsWay(folk, from, to, told) : NONE;
    }

    // ---- who it was

    public int heard(int what, int v) {
        return hearsay.takes(what, v) ? hearsay.size : NONE;
    }

    public int forget() {
        return hearsay.empties();
    }

    public int fits() {
        int fitting = hearsay.fitting(folk, inForce.wakers(folk));
        told.tellsOne(Integer.bitCount(fitting));
        return fitting;
    }

    public int asks() {
        int awake = inForce.wakers(folk);
        int fitting = hearsay.fitting(folk, awake);
        if (fitting == 0) {
            return NEVER;
        }
        int best = 0;
        int fewest = MOST_PEOPLE + 1;
        for (int ask = 0; ask < 50; ask++) {
            int what = ask / 10;
            if (what != 1 && Hearsay.mayBe(what, ask % 10)) {
                int such = fitting & Hearsay.such(folk, awake, what, ask % 10);
                int left = Math.max(Integer.bitCount(such), Integer.bitCount(fitting & ~such));
                if (left < fewest) {
                    fewest = left;
                    best = ask;
                }
            }
        }
        told.tellsOne(fewest);
        return best;
    }

    // ---- laws of waking

    public int saw(int s, int w, int is) {
        return sightings.takes(s, w, is) ? sightings.size : NONE;
    }

    public int denies() {
        return sightings.empties();
    }

    public int laws() {
        int fitting = sightings.sifts();
        int law = sightings.leastLaw();
        told.clears();
        if (law >= 0) {
            told.adds(law / 40);
            told.adds(law / 10 % 4);
            told.adds(law % 10);
        }
        return fitting;
    }

    public int looks() {
        int fitting = sightings.sifts();
        if (fitting == 0) {
            return NEVER;
        }
        int best = 0;
        int fewest = fitting + 1;
        for (int look = 0; look < 100; look++) {
            if (look % 10 < MOST_PEOPLE) {
                int waking = sightings.waking(look / 10, look % 10);
                int left = Math.max(waking, fitting - waking);
                if (left < fewest) {
                    fewest = left;
                    best = look;
                }
            }
        }
        told.tellsOne(fewest);
        return best;
    }

    // ---- odds, a vigil

    public int odds(int one, int p) {
        if (!folk.has(one) || p < 0 || p > 10) {
            return NONE;
        }
        int wanting = folk.wanting(one);
        int all = Integer.bitCount(wanting);
        int upper = 0;
        for (int set = 0; set < MOST_SETS; set++) {
            if ((set & ~wanting) == 0 && inForce.rouses(folk, one, set)) {
                int doing = Integer.bitCount(set);
                upper += power(p, doing) * power(10 - p, all - doing);
            }
        }
        tellsFraction(upper, power(10, all));
        return 0;
    }

    private static int power(int base, int times) {
        int power = 1;
        for (int i = 0; i < times; i++) {
            power *= base;
        }
        return power;
    }

    private void tellsFraction(int upper, int lower) {
        int a = lower;
        int b = upper;
        for (int i = 0; i < 64 && b != 0; i++) {
            int rest = a % b;
            a = b;
            b = rest;
        }
        if (a != 0) {
            told.tellsBoth(upper / a, lower / a);
        }
    }

    public int vigil(int n) {
        if (n < 0 || n > MOST_HOURS) {
            return NONE;
        }
        long won = 0;
        for (int left = 1; left <= n; left++) {
            won |= leastTurn(won, left) > 0 ? 1L << left : 0;
        }
        int turn = leastTurn(won, n);
        told.clears();
        if (turn > 0) {
            told.adds(turn);
        }
        return turn > 0 ? 1 : 0;
    }

    /** The least number by which one wins, if won has the bits of the fewer hours by which one wins; 0: by none. */
    private static int leastTurn(long won, int left) {
        if (left < 1) {
            return 0;
        }
        int greatest = 32;
        for (int i = 0; i < 6 && greatest > left; i++) {
            greatest /= 2;
        }
        if (((won >> (left - 1)) & 1) == 0) {
            return 1;
        }
        return ((won >> (left - greatest)) & 1) == 0 ? greatest : 0;
    }

    // ---- rests, rules, years

    public int rests(int v) {
        if (v < 0 || v > 20) {
            return NONE;
        }
        told.clears();
        int pairs = 0;
        for (int x = 0; x <= 9; x++) {
            for (int y = 0; y <= 9; y++) {
                if (isContent(x, y, v) && isContent(y, x, v)) {
                    if (pairs == 0) {
                        told.tellsBoth(x, y);
                    }
                    pairs++;
                }
            }
        }
        return pairs;
    }

    /** One who lies in x hours would have no more by another number. */
    private static boolean isContent(int x, int y, int v) {
        int has = gain(x, y, v);
        for (int another = 0; another <= 9; another++) {
            if (gain(another, y, v) > has) {
                return false;
            }
        }
        return true;
    }

    private static int gain(int x, int y, int v) {
        return 2 * x + (x <= y ? v : 0) - Math.max(0, x + y - 8);
    }

    public int law() {
        int fault = readsSpare();
        if (fault >= 0) {
            return LAW_FAULT - fault;
        }
        int byIt = Integer.bitCount(spare.wakers(folk));
        int byRule = Integer.bitCount(inForce.wakers(folk));
        told.tellsBoth(byIt, byRule);
        for (int one = 0; one < folk.number; one++) {
            told.adds(spare.needers(folk, one, folk.wanting(one)));
        }
        return byIt - byRule;
    }

    public int years(int seed, int n) {
        if (n < 1 || n > 60) {
            return NONE;
        }
        trial.becomes(folk);
        drawn = seed;
        int woke = 0;
        for (int i = 0; i < n; i++) {
            int lot = draw(4);
            if (lot < 2) {
                woke += Integer.bitCount(goBy(trial, 1));
            } else if (trial.number > 0) {
                int one = draw(trial.number);
                if (lot == 2) {
                    trial.turns(one, draw(trial.number));
                } else {
                    trial.becomesSkilled(one, draw(10));
                }
            }
        }
        told.tellsBoth(trial.unmet - folk.unmet, inForce.wakers(trial));
        return woke;
    }

    private int draw(int n) {
        drawn = drawn * 1103515245 + 12345;
        return n > 0 ? (drawn >>> 16) % n : 0;
    }

    // ---- kept

    public boolean keep(int i) {
        return past.keeps(i, folk);
    }

    public boolean again(int i) {
        return past.bringsKept(i, folk);
    }

    public int count(int what) {
        switch (what) {
            case 0: return folk.number;
            case 1: return folk.day;
            case 2: return folk.unmet;
            case 3: return folk.wantsOfAll();
            case 4: return folk.sum(folk.skill);
            case 5: return folk.sum(folk.pills);
            case 6: return folk.sum(folk.slept);
            case 7: return folk.sum(folk.woken);
            case 8: return hearsay.size;
            case 9: return sightings.size;
            case 10: return past.size;
            case 11: return told.size;
            case 12: return text.size;
            default: return NONE;
        }
    }

    public long row(int i) throws NoSuchElementException {
        if (i < 0 || i >= told.size) {
            throw new NoSuchElementException();
        }
        return told.number[i];
    }

    /** THE TEXT, and where the first sign is that can't stand there. */
    private static final class Signs {
        private final char[] signs = new char[TEXT_SIGNS];
        private int size = 0;

        private boolean takes(int v) {
            if (size + 4 > TEXT_SIGNS) {
                return false;
            }
            for (int shift = 24; shift >= 0; shift -= 8) {
                signs[size] = (char) ((v >>> shift) & 255);
                size++;
            }
            return true;
        }

        private boolean cutsTo(int n) {
            if (n < 0 || n > size) {
                return false;
            }
            size = n;
            return true;
        }

        private void empties() {
            size = 0;
        }

        private char at(int p) {
            return p >= 0 && p < size ? signs[p] : (char) 0;
        }

        private int digitAt(int p) {
            char c = at(p);
            return c >= '0' && c <= '9' ? c - '0' : NONE;
        }

        private int peopleFault(int room) {
            for (int p = 0; p < size && p < PEOPLE_SIGNS; p++) {
                int place = p % 3;
                if (place == 0 && p / 3 >= room) {
                    return p;
                }
                if (place == 2 ? at(p) != ';' : digitAt(p) < 0) {
                    return p;
                }
            }
            if (size > PEOPLE_SIGNS) {
                return PEOPLE_SIGNS;
            }
            return size % 3 == 2 ? NONE : size;
        }

        private int wantsFault(int number) {
            int who = NONE;
            int last = NONE;
            for (int p = 0; p < size && p < WANTS_SIGNS; p++) {
                if (who < 0) {
                    who = digitAt(p);
                    last = NONE;
                    if (who < 0 || who >= number) {
                        return p;
                    }
                } else if (at(p) == ';' && last >= 0) {
                    who = NONE;
                } else {
                    int letter = at(p) - 'a';
                    if (letter <= last || letter >= number || letter == who) {
                        return p;
                    }
                    last = letter;
                }
            }
            if (size > WANTS_SIGNS) {
                return WANTS_SIGNS;
            }
            return who >= 0 && last >= 0 ? NONE : size;
        }

        private int weekFault() {
            char act = 0;
            int left = 0;
            for (int p = 0; p < size && p < WEEK_SIGNS; p++) {
                if (left == 0) {
                    act = at(p);
                    left = digitsOf(act);
                    if (left == 0) {
                        return p;
                    }
                } else {
                    boolean noPill = act == 'p' && left == 1 && at(p) == '0';
                    if (digitAt(p) < 0 || noPill) {
                        return p;
                    }
                    left--;
                }
            }
            if (size > WEEK_SIGNS) {
                return WEEK_SIGNS;
            }
            return left == 0 ? NONE : size;
        }

        /** How many digits come behind an ACT's letter; 0: it is none. */
        private static int digitsOf(char act) {
            switch (act) {
                case 'n':
                case 'l':
                    return 1;
                case 't':
                case 'p':
                case 's':
                    return 2;
                default:
                    return 0;
            }
        }
    }

    /** The ROW. */
    private static final class Numbers {
        private final long[] number = new long[16];
        private int size = 0;

        private void clears() {
            size = 0;
        }

        private void adds(long v) {
            if (size < number.length) {
                number[size] = v;
                size++;
            }
        }

        private void tellsOne(long only) {
            clears();
            adds(only);
        }

        private void tellsBoth(long first, long second) {
            clears();
            adds(first);
            adds(second);
        }
    }

    /** What can be undone: PEOPLE, WANTS, DAY, UNMET. Acts that can't be done answer below 0 and change nothing. */
    private static final class Folk {
        private final int[] skill = new int[MOST_PEOPLE];
        private final int[] pills = new int[MOST_PEOPLE];
        private final int[] slept = new int[MOST_PEOPLE];
        private final int[] woken = new int[MOST_PEOPLE];
        private final int[] wanted = new int[MOST_PEOPLE];
        private int number = 0;
        private int day = 0;
        private int unmet = 0;

        private void becomes(Folk from) {
            for (int i = 0; i < MOST_PEOPLE; i++) {
                skill[i] = from.skill[i];
                pills[i] = from.pills[i];
                slept[i] = from.slept[i];
                woken[i] = from.woken[i];
                wanted[i] = from.wanted[i];
            }
            number = from.number;
            day = from.day;
            unmet = from.unmet;
        }

        private boolean has(int one) {
            return one >= 0 && one < number;
        }

        private int everybody() {
            return (1 << number) - 1;
        }

        private void comes(int withSkill, int withPills) {
            if (number < MOST_PEOPLE) {
                skill[number] = withSkill;
                pills[number] = withPills;
                slept[number] = 0;
                woken[number] = 0;
                wanted[number] = 0;
                number++;
            }
        }

        private void wantsNobody(int one) {
            if (has(one)) {
                wanted[one] = 0;
            }
        }

        private void wantsToo(int one, int another) {
            if (has(one) && has(another)) {
                wanted[one] |= 1 << another;
            }
        }

        private void skillsFrom(int kind, int n, int f, int step) {
            int entry = f;
            for (int i = 0; i < number; i++) {
                int told = kind == 0 ? (byte) entry : kind == 1 ? (short) entry : entry;
                skill[i] = i < n ? Math.max(0, Math.min(MOST_SKILL, told)) : 0;
                entry += step;
            }
        }

        private int turns(int one, int another) {
            if (!has(one) || !has(another) || one == another) {
                return NONE;
            }
            wanted[one] ^= 1 << another;
            return wanted[one];
        }

        private int takesPills(int one, int n) {
            if (!has(one) || n < 1 || n > MOST_PILLS) {
                return NONE;
            }
            if (pills[one] + n > MOST_PILLS) {
                return NEVER;
            }
            pills[one] += n;
            return pills[one];
        }

        private int becomesSkilled(int one, int v) {
            if (!has(one) || v < 0 || v > MOST_SKILL) {
                return NONE;
            }
            int was = skill[one];
            skill[one] = v;
            return was == v ? NEVER : 10 + was;
        }

        private int isRidOf(int one) {
            if (!has(one)) {
                return NONE;
            }
            int before = wantsOfAll();
            wanted[one] = 0;
            for (int i = 0; i < number; i++) {
                wanted[i] &= ~(1 << one);
            }
            int gone = before - wantsOfAll();
            return gone == 0 ? NEVER : gone;
        }

        private int wanting(int one) {
            int set = 0;
            for (int i = 0; i < number; i++) {
                set |= ((wanted[i] >> one) & 1) << i;
            }
            return set;
        }

        /** All whom some of this set want. */
        private int wantedBy(int set) {
            int all = 0;
            for (int i = 0; i < number; i++) {
                all |= ((set >> i) & 1) != 0 ? wanted[i] : 0;
            }
            return all;
        }

        /** Those who want one of this set at least. */
        private int wantingSome(int set) {
            int all = 0;
            for (int i = 0; i < number; i++) {
                all |= (wanted[i] & set) != 0 ? 1 << i : 0;
            }
            return all;
        }

        private int unserved(int awake) {
            return Integer.bitCount(wantingSome(everybody()) & ~wantingSome(awake));
        }

        private boolean areFriends(int set) {
            for (int i = 0; i < number; i++) {
                if (((set >> i) & 1) != 0 && (set & ~wanted[i] & ~(1 << i)) != 0) {
                    return false;
                }
            }
            return true;
        }

        private void passMorning(int awake) {
            unmet = Math.min(MOST_UNMET, unmet + unserved(awake));
            day++;
            for (int i = 0; i < number; i++) {
                if (((awake >> i) & 1) != 0) {
                    woken[i] = Math.min(MOST_WOKEN, woken[i] + 1);
                    slept[i] = 0;
                } else {
                    slept[i] = Math.min(MOST_SLEPT, slept[i] + 1);
                }
                pills[i] = Math.max(0, pills[i] - 1);
            }
        }

        /** WOKEN from 0 on, that a count of MORNINGS to come does not end at the most that is told. */
        private void restsWoken() {
            for (int i = 0; i < MOST_PEOPLE; i++) {
                woken[i] = 0;
            }
        }

        private int mostWoken() {
            int best = 0;
            for (int i = 1; i < number; i++) {
                best = woken[i] > woken[best] ? i : best;
            }
            return best;
        }

        private int wantsOfAll() {
            int all = 0;
            for (int i = 0; i < number; i++) {
                all += Integer.bitCount(wanted[i]);
            }
            return all;
        }

        private int sum(int[] of) {
            int all = 0;
            for (int i = 0; i < number && i < of.length; i++) {
                all += of[i];
            }
            return all;
        }
    }

    /** Twelve steps back, and two states that are kept by number. */
    private static final class Past {
        private static final int STEPS = 12;
        // One more than are kept: a mark that is not kept must not cost the oldest step.
        private static final int PLACES = STEPS + 1;
        private static final int NUMBERS = 2;
        private final Folk[] step = new Folk[PLACES];
        private final Folk[] kept = new Folk[NUMBERS];
        private final boolean[] valid = new boolean[NUMBERS];
        private int next = 0;
        private int size = 0;

        private Past() {
            for (int i = 0; i < PLACES; i++) {
                step[i] = new Folk();
            }
            for (int i = 0; i < NUMBERS; i++) {
                kept[i] = new Folk();
            }
        }

        private void marks(Folk now) {
            if (next >= 0 && next < PLACES) {
                step[next].becomes(now);
            }
        }

        private void keepsMark() {
            next = (next + 1) % PLACES;
            size = Math.min(STEPS, size + 1);
        }

        private boolean comesBack(Folk now) {
            if (size == 0) {
                return false;
            }
            next = (next + PLACES - 1) % PLACES;
            size--;
            if (next >= 0) {
                now.becomes(step[next]);
            }
            return true;
        }

        /** New PEOPLE or WANTS were told: neither steps nor what is kept can come back. */
        private void forgetsAll() {
            size = 0;
            for (int i = 0; i < NUMBERS; i++) {
                valid[i] = false;
            }
        }

        private boolean keeps(int i, Folk now) {
            if (i < 0 || i >= NUMBERS) {
                return false;
            }
            kept[i].becomes(now);
            valid[i] = true;
            return true;
        }

        private boolean bringsKept(int i, Folk now) {
            if (i < 0 || i >= NUMBERS || !valid[i]) {
                return false;
            }
            now.becomes(kept[i]);
            size = 0;
            return true;
        }
    }

    /** A RULE in the order in which it is reckoned: numbers, things (from THING on), operators (from OPERATOR on). */
    private static final class Rule {
        private static final String THINGS = "stwvubn";
        private static final String OPERATORS = "<>=+-*/";
        private static final int THING = 1000;
        private static final int OPERATOR = 2000;
        private static final int NEGATION = OPERATOR + 7;
        private final int[] code = new int[RULE_SIGNS];
        private final int[] stack = new int[RULE_SIGNS];
        private final int[] thing = new int[7];
        private int size = 0;

        private void clears() {
            size = 0;
        }

        private void adds(int v) {
            if (size < RULE_SIGNS) {
                code[size] = v;
                size++;
            }
        }

        /** One digit more comes behind the number that was added last. */
        private void widens(int digit) {
            if (size > 0) {
                code[size - 1] = code[size - 1] * 10 + digit;
            }
        }

        private int wakers(Folk folk) {
            int awake = 0;
            for (int i = 0; i < folk.number; i++) {
                if (folk.pills[i] == 0 && needers(folk, i, folk.wanting(i)) != 0) {
                    awake |= 1 << i;
                }
            }
            return awake;
        }

        /** Whether one WAKES, if of those who want him just this set does. */
        private boolean rouses(Folk folk, int one, int set) {
            return folk.has(one) && folk.pills[one] == 0 && needers(folk, one, set) != 0;
        }

        /** By whom of this set one is NEEDED, if just these want him. */
        private int needers(Folk folk, int one, int set) {
            if (!folk.has(one)) {
                return 0;
            }
            thing[0] = folk.skill[one];
            thing[2] = Integer.bitCount(set);
            thing[4] = folk.slept[one];
            thing[6] = folk.day % 7;
            int all = 0;
            for (int i = 0; i < folk.number; i++) {
                if (((set >> i) & 1) != 0) {
                    thing[1] = folk.skill[i];
                    thing[3] = Integer.bitCount(folk.wanted[i]);
                    thing[5] = (folk.wanted[one] >> i) & 1;
                    all |= value() > 0 ? 1 << i : 0;
                }
            }
            return all;
        }

        private int value() {
            int top = 0;
            for (int i = 0; i < size; i++) {
                int c = code[i];
                if (c == NEGATION) {
                    if (top > 0) {
                        stack[top - 1] = -stack[top - 1];
                    }
                } else if (c >= OPERATOR) {
                    if (top > 1) {
                        top--;
                        stack[top - 1] = joined(c - OPERATOR, stack[top - 1], stack[top]);
                    }
                } else if (top < RULE_SIGNS) {
                    int of = c - THING;
                    stack[top] = of < 0 ? c : of < thing.length ? thing[of] : 0;
                    top++;
                }
            }
            return top > 0 ? stack[0] : 0;
        }

        private static int joined(int operator, int a, int b) {
            switch (operator) {
                case 0: return a < b ? 1 : 0;
                case 1: return a > b ? 1 : 0;
                case 2: return a == b ? 1 : 0;
                case 3: return a + b;
                case 4: return a - b;
                case 5: return a * b;
                default: return b == 0 ? 0 : a / b;
            }
        }
    }

    /** Reads a RULE from the left: operators wait till one comes that binds no more than they do. */
    private static final class RuleReader {
        private static final int BRACKET = 0;
        private static final int MOST_DEPTH = 4;
        private static final int MOST_DIGITS = 3;
        private final int[] waiting = new int[RULE_SIGNS];
        private int waits = 0;
        private int depth = 0;
        // Bit d: at d brackets deep a comparison has come, so that no other may.
        private int compared = 0;
        private int digits = 0;
        private boolean hasThing = false;

        /** Where the first sign is that can't stand there, or NONE, and then the rule is read. */
        private int faultIn(char[] signs, int length, Rule into) {
            waits = 0;
            depth = 0;
            compared = 0;
            digits = 0;
            hasThing = false;
            into.clears();
            for (int p = 0; p < length && p < RULE_SIGNS && p < signs.length; p++) {
                boolean stands = hasThing ? goesBehind(signs[p], into) : begins(signs[p], into);
                if (!stands) {
                    return p;
                }
            }
            if (length > RULE_SIGNS) {
                return RULE_SIGNS;
            }
            if (!hasThing || depth > 0) {
                return length;
            }
            settles(1, into);
            return NONE;
        }

        private boolean begins(char c, Rule into) {
            int thing = Rule.THINGS.indexOf(c);
            if (c >= '0' && c <= '9') {
                into.adds(c - '0');
                digits = 1;
                hasThing = true;
            } else if (thing >= 0) {
                into.adds(Rule.THING + thing);
                digits = 0;
                hasThing = true;
            } else if (c == '-') {
                waitsFor(Rule.NEGATION);
            } else if (c == '(' && depth < MOST_DEPTH) {
                depth++;
                compared &= ~(1 << depth);
                waitsFor(BRACKET);
            } else {
                return false;
            }
            return true;
        }

        private boolean goesBehind(char c, Rule into) {
            if (c >= '0' && c <= '9') {
                return goesOnNumber(c - '0', into);
            }
            digits = 0;
            if (c == ')') {
                return closes(into);
            }
            int operator = Rule.OPERATORS.indexOf(c);
            if (operator < 0) {
                return false;
            }
            int binding = bindingOf(Rule.OPERATOR + operator);
            if (binding == 1 && ((compared >> depth) & 1) != 0) {
                return false;
            }
            compared |= binding == 1 ? 1 << depth : 0;
            settles(binding, into);
            waitsFor(Rule.OPERATOR + operator);
            hasThing = false;
            return true;
        }

        private boolean goesOnNumber(int digit, Rule into) {
            if (digits == 0 || digits >= MOST_DIGITS) {
                return false;
            }
            digits++;
            into.widens(digit);
            return true;
        }

        private boolean closes(Rule into) {
            if (depth == 0 || waits == 0) {
                return false;
            }
            settles(1, into);
            depth--;
            waits = Math.max(0, waits - 1);
            return true;
        }

        private void waitsFor(int operator) {
            if (waits < RULE_SIGNS) {
                waiting[waits] = operator;
                waits++;
            }
        }

        /** Those that wait and bind as much at least come, the latest first, up to a bracket. */
        private void settles(int binding, Rule into) {
            for (int i = waits - 1; i >= 0 && i < RULE_SIGNS; i--) {
                if (bindingOf(waiting[i]) < binding) {
                    return;
                }
                into.adds(waiting[i]);
                waits = i;
            }
        }

        private static int bindingOf(int operator) {
            if (operator == BRACKET) {
                return 0;
            }
            if (operator == Rule.NEGATION) {
                return 4;
            }
            int place = operator - Rule.OPERATOR;
            return place < 3 ? 1 : place < 5 ? 2 : 3;
        }
    }

    /** Who serves whom. */
    private static final class Service {
        // At one << MOST_PEOPLE | used: the most of one, one + 1, .. whom those can serve who are not used.
        private final int[] most = new int[(MOST_PEOPLE + 1) * MOST_SETS];

        private int tellsServed(Folk folk, int awake, Numbers told) {
            reckons(folk, awake);
            told.clears();
            int used = 0;
            for (int one = 0; one < folk.number; one++) {
                int by = leastBy(one, folk.wanted[one] & awake & ~used, used);
                told.adds(by);
                used |= by >= 0 ? 1 << by : 0;
            }
            return mostFrom(0, 0);
        }

        private void reckons(Folk folk, int awake) {
            int sets = folk.everybody() + 1;
            for (int one = folk.number; one >= 0; one--) {
                for (int used = 0; used < sets; used++) {
                    int by = one < folk.number ? folk.wanted[one] & awake & ~used : 0;
                    most[one * MOST_SETS + used] = one < folk.number ? best(one, by, used) : 0;
                }
            }
        }

        private int best(int one, int by, int used) {
            int best = mostFrom(one + 1, used);
            for (int i = 0; i < MOST_PEOPLE; i++) {
                if (((by >> i) & 1) != 0) {
                    best = Math.max(best, 1 + mostFrom(one + 1, used | 1 << i));
                }
            }
            return best;
        }

        private int leastBy(int one, int by, int used) {
            int all = mostFrom(one, used);
            if (mostFrom(one + 1, used) == all) {
                return NONE;
            }
            for (int i = 0; i < MOST_PEOPLE; i++) {
                if (((by >> i) & 1) != 0 && 1 + mostFrom(one + 1, used | 1 << i) == all) {
                    return i;
                }
            }
            return NONE;
        }

        private int mostFrom(int one, int used) {
            int at = one * MOST_SETS + used;
            return at >= 0 && at < most.length ? most[at] : 0;
        }

        /** The fewest who want some, but of whom fewer WAKE; 0: none. */
        private static int tooMany(Folk folk, int awake) {
            int wanting = folk.wantingSome(folk.everybody());
            int best = 0;
            for (int set = 1; set < MOST_SETS; set++) {
                int size = Integer.bitCount(set);
                boolean fewer = best == 0 || size < Integer.bitCount(best);
                if ((set & ~wanting) == 0 && fewer && Integer.bitCount(folk.wantedBy(set) & awake) < size) {
                    best = set;
                }
            }
            return best;
        }

        /** The fewest of those who WAKE that serve all whom those can serve. */
        private static int fewest(Folk folk, int awake) {
            int served = folk.wantingSome(awake);
            int best = awake;
            for (int set = 0; set < MOST_SETS; set++) {
                boolean fewer = (set & ~awake) == 0 && Integer.bitCount(set) < Integer.bitCount(best);
                if (fewer && folk.wantingSome(set) == served) {
                    best = set;
                }
            }
            return best;
        }
    }

    /** Rows of PEOPLE, each wanted by the one ahead. */
    private static final class Paths {
        private final int[] path = new int[MOST_PEOPLE];
        private final int[] longest = new int[MOST_PEOPLE];
        private final int[] far = new int[MOST_PEOPLE];
        private int length = 0;

        private int tellsLongest(Folk folk, int one, Numbers told) {
            length = 0;
            goesOn(folk, one, 0, 0);
            told.clears();
            for (int i = 0; i < length && i < MOST_PEOPLE; i++) {
                told.adds(longest[i]);
            }
            return length;
        }

        /** The first longest row that is met is the least, for the lower ones are tried first. */
        private void goesOn(Folk folk, int one, int used, int depth) {
            if (depth < 0 || depth >= MOST_PEOPLE || length >= folk.number || !folk.has(one)) {
                return;
            }
            path[depth] = one;
            if (depth >= length) {
                length = depth + 1;
                for (int i = 0; i <= depth; i++) {
                    longest[i] = path[i];
                }
            }
            int gone = used | 1 << one;
            int next = folk.wanted[one] & ~gone;
            for (int i = 0; i < folk.number; i++) {
                if (((next >> i) & 1) != 0) {
                    goesOn(folk, i, gone, depth + 1);
                }
            }
        }

        private int tellsWay(Folk folk, int from, int to, Numbers told) {
            measures(folk, to, folk.everybody());
            int steps = farOf(from);
            if (steps < 0) {
                return NEVER;
            }
            told.tellsOne(from);
            int at = from;
            for (int left = steps - 1; left >= 0; left--) {
                at = nearer(folk, at, left);
                told.adds(at);
            }
            return steps;
        }

        private int tellsRing(Folk folk, Numbers told) {
            int fewest = MOST_PEOPLE + 1;
            int first = NONE;
            for (int one = 0; one < folk.number; one++) {
                int round = roundFrom(folk, one);
                if (round > 0 && round < fewest) {
                    fewest = round;
                    first = one;
                }
            }
            if (first < 0) {
                return NEVER;
            }
            roundFrom(folk, first);
            told.tellsOne(first);
            int at = first;
            for (int left = fewest - 1; left > 0; left--) {
                at = nearer(folk, at, left);
                told.adds(at);
            }
            return fewest;
        }

        /** The fewest in a ring of which one is the least; 0: none. Leaves how far the others of it are from him. */
        private int roundFrom(Folk folk, int one) {
            measures(folk, one, folk.everybody() & -(1 << one));
            for (int left = 1; left < folk.number; left++) {
                if (nearer(folk, one, left) >= 0) {
                    return left + 1;
                }
            }
            return 0;
        }

        /** How far it is from each of a set to one, by this set alone (NONE: no way). */
        private void measures(Folk folk, int to, int among) {
            for (int i = 0; i < MOST_PEOPLE; i++) {
                far[i] = i == to ? 0 : NONE;
            }
            int last = 1 << to;
            for (int away = 1; away < folk.number; away++) {
                int found = 0;
                for (int i = 0; i < folk.number; i++) {
                    if (far[i] < 0 && ((among >> i) & 1) != 0 && (folk.wanted[i] & last) != 0) {
                        far[i] = away;
                        found |= 1 << i;
                    }
                }
                last = found;
            }
        }

        private int farOf(int one) {
            return one >= 0 && one < MOST_PEOPLE ? far[one] : NONE;
        }

        /** The least one whom one wants and who is so far. */
        private int nearer(Folk folk, int one, int away) {
            if (!folk.has(one)) {
                return NONE;
            }
            for (int i = 0; i < folk.number; i++) {
                if (((folk.wanted[one] >> i) & 1) != 0 && far[i] == away) {
                    return i;
                }
            }
            return NONE;
        }
    }

    /** What was heard of one. */
    private static final class Hearsay {
        private static final int MOST = 12;
        private final int[] what = new int[MOST];
        private final int[] value = new int[MOST];
        private int size = 0;

        private boolean takes(int ofWhat, int v) {
            if (size >= MOST || !mayBe(ofWhat, v)) {
                return false;
            }
            what[size] = ofWhat;
            value[size] = v;
            size++;
            return true;
        }

        private int empties() {
            int were = size;
            size = 0;
            return were;
        }

        private static boolean mayBe(int ofWhat, int v) {
            return v >= 0 && v <= highest(ofWhat);
        }

        private static int highest(int ofWhat) {
            switch (ofWhat) {
                case 0: return MOST_SKILL;
                case 1: return MOST_SLEPT;
                case 2: return 1;
                case 3:
                case 4:
                    return MOST_PEOPLE - 1;
                default: return NONE;
            }
        }

        private int fitting(Folk folk, int awake) {
            int fitting = folk.everybody();
            for (int i = 0; i < size && i < MOST; i++) {
                fitting &= such(folk, awake, what[i], value[i]);
            }
            return fitting;
        }

        /** Those of whom it is so. */
        private static int such(Folk folk, int awake, int ofWhat, int v) {
            int such = 0;
            for (int i = 0; i < folk.number; i++) {
                such |= isSo(folk, awake, i, ofWhat, v) ? 1 << i : 0;
            }
            return such;
        }

        private static boolean isSo(Folk folk, int awake, int one, int ofWhat, int v) {
            if (!folk.has(one)) {
                return false;
            }
            switch (ofWhat) {
                case 0: return folk.skill[one] >= v;
                case 1: return folk.slept[one] <= v;
                case 2: return ((awake >> one) & 1) == v;
                case 3: return ((folk.wanted[one] >> v) & 1) != 0;
                default: return folk.has(v) && ((folk.wanted[v] >> one) & 1) != 0;
            }
        }
    }

    /** What was seen, and the laws that fit it: law 40 times a, 10 times b and c. */
    private static final class Sightings {
        private static final int MOST = 10;
        private static final int LAWS = 160;
        private final int[] skill = new int[MOST];
        private final int[] wanting = new int[MOST];
        private final boolean[] woke = new boolean[MOST];
        private final boolean[] fits = new boolean[LAWS];
        private int size = 0;

        private boolean takes(int s, int w, int is) {
            boolean inside = s >= 0 && s <= MOST_SKILL && w >= 0 && w < MOST_PEOPLE && is >= 0 && is <= 1;
            if (!inside || size >= MOST) {
                return false;
            }
            skill[size] = s;
            wanting[size] = w;
            woke[size] = is == 1;
            size++;
            return true;
        }

        private int empties() {
            int were = size;
            size = 0;
            return were;
        }

        private static boolean rouses(int law, int s, int w) {
            return law / 40 * s + law / 10 % 4 * w > law % 10;
        }

        /** Looks which laws fit: how many. */
        private int sifts() {
            int fitting = 0;
            for (int law = 0; law < LAWS; law++) {
                fits[law] = true;
                for (int i = 0; i < size && i < MOST; i++) {
                    fits[law] &= rouses(law, skill[i], wanting[i]) == woke[i];
                }
                fitting += fits[law] ? 1 : 0;
            }
            return fitting;
        }

        /** Of those that fit, as sifts() has found. */
        private int leastLaw() {
            for (int law = 0; law < LAWS; law++) {
                if (fits[law]) {
                    return law;
                }
            }
            return NONE;
        }

        /** How many of those that fit rouse such a one, as sifts() has found. */
        private int waking(int s, int w) {
            int waking = 0;
            for (int law = 0; law < LAWS; law++) {
                waking += fits[law] && rouses(law, s, w) ? 1 : 0;
            }
            return waking;
        }
    }
}
