/** Terms: each sentence that names a least, a most, a first or an empty thing has a test of its own. */
public final class EdgesTermsTest {
    private static final String SEVEN = "90;90;90;90;90;90;90";
    private static final String TWENTY = "0b;0b;0b;0b;0b;0b;0b;0b;0b;0b;0b;0b;0b;0b;0b;0b;0b;0b;0b;0b";

    public static void main(String[] args) {
        people();
        skillAndPills();
        sleptAtFirst();
        wokenAtFirst();
        peopleSigns();
        wantsAtFirst();
        wantsSigns();
        whoIsThere();
        letters();
        eachThere();
        noneHimself();
        rising();
        atLeastOne();
        thoseAlone();
        dayAndUnmet();
        ruleSigns();
        ruleAtFirst();
        compared();
        fromTheLeft();
        divided();
        minusAhead();
        numbers();
        brackets();
        things();
        thingsByDays();
        wrapAround();
        needed();
        wakes();
        aheadOfIt();
        wokenAtMost();
        sleptAtMost();
        pillsAtLeast();
        unmetAtMost();
        dayGrows();
        rowsCompared();
        sets();
        Check.ends();
    }

    /** By whom 0 of SKILL 7, whom 1 of SKILL 4 wants, is NEEDED by this rule: 2 if its value is above 0, else 0. */
    private static int needers(String rule) {
        return Check.bell("70;40", "1a", rule).one(0, 6);
    }

    private static void above(String rule) {
        Check.due(rule, needers(rule), 2);
    }

    private static void notAbove(String rule) {
        Check.due(rule, needers(rule), 0);
    }

    private static void value(String expression, int value) {
        above("(" + expression + ")=" + value);
    }

    private static void people() {
        Check.says(0, "PEOPLE 0 .. (at most 7)");
        BellForWanted x = Check.bell("10;20;30;40;50;60", "");
        Check.due("six", x.count(0), 6);
        Check.due("the seventh", Check.people(x, "70"), 1);
        Check.due("an eighth", Check.people(x, "80"), -1);
        Check.due("seven", x.count(0), 7);
        Check.due("the last is 6", x.one(6, 0), 7);
        Check.missing("7 is not there", Check.oneThrows(x, 7, 0));
    }

    private static void skillAndPills() {
        Check.says(0, "SKILL 0 .. 9, PILLS 0 .. 9");
        BellForWanted x = Check.bell("09;90", "");
        Check.due("SKILL 0", x.one(0, 0), 0);
        Check.due("PILLS 9", x.one(0, 1), 9);
        Check.due("SKILL 9", x.one(1, 0), 9);
        Check.due("PILLS 0", x.one(1, 1), 0);
    }

    private static void sleptAtFirst() {
        Check.says(0, "SLEPT 0 .. 99 (at first 0)");
        BellForWanted x = Check.bell("50", "");
        Check.due("at first", x.one(0, 2), 0);
        x.mornings(7);
        Check.people(x, "50");
        Check.due("of one who comes later", x.one(1, 2), 0);
        Check.due("of the one who was there", x.one(0, 2), 7);
    }

    private static void wokenAtFirst() {
        Check.says(0, "WOKEN 0 .. 999 (at first 0)");
        BellForWanted x = Check.bell("50;50", "0b");
        Check.due("at first", x.one(1, 3), 0);
        x.mornings(7);
        Check.people(x, "50");
        Check.due("of one who comes later", x.one(2, 3), 0);
        Check.due("of the one who was there", x.one(1, 3), 7);
    }

    private static void peopleSigns() {
        Check.says(0, "They are told by a text of at most 20 signs");
        BellForWanted x = new BellForWanted();
        Check.due("21 signs", Check.people(x, "11;22;33;44;55;66;77;"), -21);
        Check.due("20 signs", Check.people(x, "11;22;33;44;55;66;77"), 7);
    }

    private static void wantsAtFirst() {
        Check.says(0, "of each one whom of the others he wants (at first nobody)");
        BellForWanted x = Check.bell(SEVEN, "");
        for (int one = 0; one < 7; one++) {
            Check.due("whom " + one + " wants", x.one(one, 4), 0);
        }
        Check.due("WANTS of all", x.count(3), 0);
    }

    private static void wantsSigns() {
        Check.says(0, "They are told by a text of at most 60 signs");
        BellForWanted x = Check.bell("11;22;33", "");
        Check.due("61 signs", Check.wants(x, TWENTY + "c;"), -61);
        Check.due("60 signs", Check.wants(x, TWENTY + "c"), 20);
        Check.due("their last", x.one(0, 4), 6);
        Check.due("59 signs", Check.wants(x, TWENTY), 20);
    }

    private static void whoIsThere() {
        Check.says(0, "a digit (one who is there)");
        BellForWanted x = Check.bell("11;22;33", "");
        Check.due("the last one", Check.wants(x, "2a"), 1);
        Check.due("one more", Check.wants(x, "3a"), -1);
        Check.due("the digit 9", Check.wants(x, "9a"), -1);
        Check.due("the sign ahead of 0", Check.wants(x, "/b"), -1);
        Check.due("the sign behind 9", Check.wants(x, ":b"), -1);
        BellForWanted seven = Check.bell(SEVEN, "");
        Check.due("the last of seven", Check.wants(seven, "6a"), 1);
        Check.due("7 of seven", Check.wants(seven, "7a"), -1);
    }

    private static void letters() {
        Check.says(0, "letters a .. g (whom he wants: a is 0, b is 1, ..");
        BellForWanted x = Check.bell(SEVEN, "");
        Check.due("a and g", Check.wants(x, "3ag"), 1);
        Check.due("0 and 6", x.one(3, 4), 65);
        Check.due("all letters", Check.wants(x, "0bcdefg;6abcdef"), 2);
        Check.due("1 to 6", x.one(0, 4), 126);
        Check.due("0 to 5", x.one(6, 4), 63);
        Check.due("h", Check.wants(x, "3h"), -2);
        Check.due("the sign ahead of a", Check.wants(x, "3`"), -2);
        Check.due("A", Check.wants(x, "3A"), -2);
    }

    private static void eachThere() {
        Check.says(0, "each there");
        BellForWanted x = Check.bell("11;22;33", "");
        Check.due("the last one", Check.wants(x, "0c"), 1);
        Check.due("one more", Check.wants(x, "0d"), -2);
        Check.due("one more behind another", Check.wants(x, "0bd"), -3);
    }

    private static void noneHimself() {
        Check.says(0, "none himself");
        BellForWanted x = Check.bell("11;22;33", "");
        Check.due("0", Check.wants(x, "0a"), -2);
        Check.due("1 behind another", Check.wants(x, "1ab"), -3);
        Check.due("2 behind two", Check.wants(x, "2abc"), -4);
        Check.due("without himself", Check.wants(x, "1ac"), 1);
    }

    private static void rising() {
        Check.says(0, "rising");
        BellForWanted x = Check.bell("11;22;33;44", "");
        Check.due("like ones", Check.wants(x, "0bb"), -3);
        Check.due("falling", Check.wants(x, "0cb"), -3);
        Check.due("falling behind rising", Check.wants(x, "0bdc"), -4);
        Check.due("rising", Check.wants(x, "0bcd"), 1);
        Check.due("anew in the next LINE", Check.wants(x, "0d;1a"), 2);
    }

    private static void atLeastOne() {
        Check.says(0, "at least one)");
        BellForWanted x = Check.bell("11;22;33", "");
        Check.due("none", Check.wants(x, "0"), -2);
        Check.due("none ahead of a LINE", Check.wants(x, "0;1a"), -2);
        Check.due("one", Check.wants(x, "0b"), 1);
    }

    private static void thoseAlone() {
        Check.says(0, "he wants those alone, instead of whom he wanted");
        BellForWanted x = Check.bell("11;22;33", "0b;1ac");
        Check.wants(x, "0c");
        Check.due("of 0", x.one(0, 4), 4);
        Check.due("of 1, who is not told", x.one(1, 4), 5);
    }

    private static void dayAndUnmet() {
        Check.says(0, "DAY (at first 0), UNMET 0 .. 9999 (at first 0)");
        BellForWanted x = new BellForWanted();
        Check.due("DAY", x.count(1), 0);
        Check.due("UNMET", x.count(2), 0);
        Check.people(x, "50;00");
        Check.wants(x, "0b");
        Check.due("DAY with PEOPLE", x.count(1), 0);
        Check.due("UNMET with WANTS", x.count(2), 0);
    }

    private static void ruleSigns() {
        Check.says(0, "THE RULE is a text of at most 40 signs");
        BellForWanted x = Check.bell("70;40", "1a");
        String forty = "0+0+0+0+0+0+0+0+0+0+0+0+0+0+0+0+0+0+0+01";
        Check.due("forty", forty.length(), 40);
        Check.due("40 signs", Check.rule(x, forty), 0);
        Check.due("their last", x.one(0, 6), 2);
        Check.due("41 signs", Check.rule(x, forty + "1"), -41);
        Check.due("the one of 40 stays", x.one(0, 6), 2);
    }

    private static void ruleAtFirst() {
        Check.says(0, "(at first none: s-4+w)");
        Check.due("3-4+1", Check.bell("30;40", "1a").one(0, 6), 0);
        Check.due("4-4+1", Check.bell("40;40", "1a").one(0, 6), 2);
        Check.due("0-4+4", Check.bell("00;40;40;40;40", "1a;2a;3a;4a").one(0, 6), 0);
        Check.due("0-4+5", Check.bell("00;40;40;40;40;40", "1a;2a;3a;4a;5a").one(0, 6), 62);
    }

    private static void compared() {
        Check.says(0, "< > = bind least (two; 1 or 0; not one behind the other)");
        value("3<4", 1);
        value("4<4", 0);
        value("4>3", 1);
        value("4>4", 0);
        value("4=4", 1);
        value("4=3", 0);
        above("1+1=2");
        above("1<2-0");
        above("(3>2)=1");
        above("1=(3>2)");
        BellForWanted x = Check.bell("70;40", "1a");
        for (char first : "<>=".toCharArray()) {
            for (char second : "<>=".toCharArray()) {
                Check.due("one behind the other", Check.rule(x, "s" + first + "t" + second + "w"), -4);
                Check.due("in brackets, too", Check.rule(x, "(s" + first + "t" + second + "w)"), -5);
                Check.due("in brackets behind", Check.rule(x, "s" + first + "(t" + second + "w)"), 0);
                Check.due("in brackets ahead", Check.rule(x, "(s" + first + "t)" + second + "w"), 0);
            }
        }
        Check.due("behind brackets", Check.rule(x, "s<(t<w)<v"), -8);
        Check.due("side by side", Check.rule(x, "(s<t)+(t<s)"), 0);
        Check.due("one alone", Check.rule(x, "<s"), -1);
        Check.due("nothing behind", Check.rule(x, "s<"), -3);
    }

    private static void fromTheLeft() {
        Check.says(0, "then + - (from the left), then * / (from the left");
        value("9-3-2", 4);
        value("9-3+2", 8);
        value("9/2*2", 8);
        value("9-2*3", 3);
        value("9-4/2", 7);
        value("9+4/2", 11);
        value("9*2-3", 15);
        value("9/2-3", 1);
        value("9/2+3", 7);
        value("9-2-3*2+1", 2);
        value("9/2/2", 2);
        value("2+3*4", 14);
        value("2*3-4", 2);
    }

    private static void divided() {
        Check.says(0, "by 0: 0; cut to 0)");
        value("5/0", 0);
        value("0/0", 0);
        value("-5/0", 0);
        value("5/(s-s)+1", 1);
        value("7/2", 3);
        value("-7/2", -3);
        value("7/-2", -3);
        value("-7/-2", 3);
        value("1/2", 0);
        value("-1/2", 0);
    }

    private static void minusAhead() {
        Check.says(0, "then - ahead of a thing (any many)");
        value("-3", -3);
        value("--3", 3);
        value("2--3", 5);
        value("2---3", -1);
        value("-3*-2", 6);
        value("-(2-3)", 1);
        value("-2-1", -3);
        above("--------------------------------------s");
        notAbove("---------------------------------------s");
        Check.due("nothing behind", Check.rule(Check.bell("70;40", "1a"), "--"), -3);
        Check.due("+ ahead", Check.rule(Check.bell("70;40", "1a"), "+s"), -1);
    }

    private static void numbers() {
        Check.says(0, "a NUMBER of 1 to 3 digits");
        above("9=10-1");
        above("99=100-1");
        above("999=998+1");
        above("000=0");
        above("007=7");
        notAbove("0");
        BellForWanted x = Check.bell("70;40", "1a");
        Check.due("four digits", Check.rule(x, "1000"), -4);
        Check.due("four digits behind", Check.rule(x, "s+0000"), -6);
        Check.due("a thing behind a digit", Check.rule(x, "1s"), -2);
        Check.due("a digit behind a thing", Check.rule(x, "s1"), -2);
        Check.due("a digit behind brackets", Check.rule(x, "(1)1"), -4);
        Check.due("the sign ahead of 0 at first", Check.rule(x, "/"), -1);
        Check.due("the sign behind 9 at first", Check.rule(x, ":"), -1);
        Check.due("the sign ahead of 0 behind +", Check.rule(x, "1+/"), -3);
        Check.due("the sign behind 9 behind +", Check.rule(x, "1+:"), -3);
        Check.due("the sign ahead of those", Check.rule(x, "1."), -2);
        Check.due("the sign behind 9", Check.rule(x, "1:"), -2);
    }

    private static void brackets() {
        Check.says(0, "an EXPRESSION in ( ) (at most 4 in one another)");
        above("((((s))))");
        above("((((s))))*((((t))))");
        BellForWanted x = Check.bell("70;40", "1a");
        Check.due("five", Check.rule(x, "(((((s)))))"), -5);
        Check.due("five, later", Check.rule(x, "((s)+(((s"), -10);
        Check.due("five behind four", Check.rule(x, "((((s))))+(((((s)))))"), -15);
        Check.due("five behind some closed", Check.rule(x, "(((s)+((t"), -10);
        Check.due("nothing in them", Check.rule(x, "()"), -2);
        Check.due("one closed that is not open", Check.rule(x, "s)"), -2);
        Check.due("one closed that is not open, behind +", Check.rule(x, "1+s)"), -4);
        Check.due("one closed that is not open, behind -", Check.rule(x, "-s)"), -3);
        Check.due("one closed twice", Check.rule(x, "(s))"), -4);
        Check.due("one closed twice, behind *", Check.rule(x, "2*(s))"), -6);
        Check.due("one not closed", Check.rule(x, "((s)"), -5);
        Check.due("one closed at first", Check.rule(x, ")"), -1);
    }

    /** 6 wants all others, the others want 0, and 0 nobody. */
    private static BellForWanted all() {
        return Check.bell("00;90;50;50;50;50;50", "1a;2a;3a;4a;5a;6abcdef");
    }

    private static void things() {
        BellForWanted x = all();
        Check.says(0, "s SKILL of him, t SKILL of the one who wants him");
        thing(x, "s=0", 0, 126);
        thing(x, "s=9", 1, 64);
        thing(x, "t=9", 0, 2);
        Check.says(0, "w how many want him, v how many the one who wants him wants");
        thing(x, "w=6", 0, 126);
        thing(x, "w=1", 1, 64);
        thing(x, "v=1", 0, 62);
        thing(x, "v=6", 0, 64);
        Check.says(0, "b 1 if he wants the one who wants him, too, else 0");
        thing(x, "b=0", 0, 126);
        thing(x, "b=1", 0, 0);
        x.wishes(0, 6);
        thing(x, "b=1", 0, 64);
        thing(x, "b=0", 0, 62);
    }

    private static void thingsByDays() {
        BellForWanted x = all();
        Check.says(0, "u SLEPT of him");
        thing(x, "u=0", 0, 126);
        Check.rule(x, "0");
        x.mornings(6);
        thing(x, "u=6", 0, 126);
        Check.says(0, "n DAY by 7 (rest)");
        thing(x, "n=6", 0, 126);
        Check.rule(x, "0");
        x.mornings(1);
        thing(x, "n=0", 0, 126);
        Check.rule(x, "0");
        x.mornings(60);
        x.mornings(40);
        thing(x, "n=2", 0, 126);
        thing(x, "u=99", 0, 126);
    }

    private static void thing(BellForWanted x, String rule, int one, int due) {
        Check.due("rule() of " + rule, Check.rule(x, rule), 0);
        Check.due(rule + " of " + one, x.one(one, 6), due);
    }

    private static void wrapAround() {
        Check.says(0, "As ints: he is NEEDED by the one who wants him, if it is above 0");
        notAbove("512*512*512*16");
        above("512*512*512*16-1");
        above("512*512*512*32=0");
        above("-(512*512*512*16)<0");
        above("512*512*512*16/-1<0");
        above("(512*512*512*16-1)*2=-2");
        notAbove("512*512*512*16-1+1");
        notAbove("999*999*999*3");
        above("999*999*999*2");
    }

    private static void needed() {
        Check.says(0, "if it is above 0");
        notAbove("0");
        above("1");
        notAbove("-1");
        notAbove("s-7");
        above("s-6");
    }

    private static void wakes() {
        Check.says(0, "One WAKES on a MORNING, if his PILLS are 0, and he is NEEDED by some one who wants him");
        BellForWanted x = Check.bell("91;50", "1a");
        Check.due("PILLS 1", x.wakes(), 0);
        x.mornings(1);
        Check.due("PILLS 0", x.wakes(), 1);
        x.wishes(1, 0);
        Check.due("nobody wants him", x.wakes(), 0);
        Check.due("NEEDED by none of two", Check.bell("10;50;60", "1a;2a", "t-6").wakes(), 0);
        Check.due("NEEDED by one of two", Check.bell("10;50;60", "1a;2a", "t-5").wakes(), 1);
        Check.due("nobody wants him, by 1", Check.bell("90;90", "0b", "1").wakes(), 2);
    }

    private static void aheadOfIt() {
        Check.says(0, "A MORNING goes by, all as it is ahead of it");
        BellForWanted pill = Check.bell("91;50", "1a");
        Check.due("the pill of the MORNING still works", pill.mornings(1), 0);
        Check.due("UNMET by it", pill.count(2), 1);
        Check.due("none on the next", pill.mornings(1), 1);
        BellForWanted day = Check.bell("50;50", "1a", "n=0");
        Check.due("DAY 0", day.mornings(1), 1);
        Check.due("DAY 1", day.mornings(1), 0);
        BellForWanted slept = Check.bell("50;50", "1a", "u=0");
        Check.due("SLEPT 0", slept.mornings(1), 1);
        BellForWanted later = Check.bell("50;50", "1a", "u=1");
        Check.due("not SLEPT 1", later.mornings(1), 0);
        Check.due("SLEPT 1", later.mornings(1), 1);
        Check.due("SLEPT 0 then", later.one(0, 2), 0);
    }

    private static void wokenAtMost() {
        Check.says(0, "of each who WAKES WOKEN is 1 more (999 at most), and SLEPT 0");
        BellForWanted x = Check.bell("50;50", "1a");
        for (int i = 0; i < 16; i++) {
            x.mornings(60);
        }
        x.mornings(38);
        Check.due("WOKEN", x.one(0, 3), 998);
        x.mornings(1);
        Check.due("WOKEN", x.one(0, 3), 999);
        Check.due("he WAKES still", x.mornings(1), 1);
        Check.due("no more", x.one(0, 3), 999);
        Check.due("SLEPT", x.one(0, 2), 0);
        Check.due("of the other one", x.one(1, 3), 0);
    }

    private static void sleptAtMost() {
        Check.says(0, "of each other one SLEPT is 1 more (99 at most)");
        BellForWanted x = Check.bell("50;50", "1a");
        x.mornings(60);
        x.mornings(38);
        Check.due("SLEPT", x.one(1, 2), 98);
        x.mornings(1);
        Check.due("SLEPT", x.one(1, 2), 99);
        x.mornings(1);
        Check.due("no more", x.one(1, 2), 99);
        x.mornings(60);
        Check.due("no more, later", x.one(1, 2), 99);
    }

    private static void pillsAtLeast() {
        Check.says(0, "PILLS of each are 1 less (0 at least)");
        BellForWanted x = Check.bell("59;51;50", "");
        x.mornings(1);
        Check.due("of 9", x.one(0, 1), 8);
        Check.due("of 1", x.one(1, 1), 0);
        Check.due("of 0", x.one(2, 1), 0);
        x.mornings(7);
        Check.due("of 9 behind eight", x.one(0, 1), 1);
        x.mornings(60);
        Check.due("all", x.count(5), 0);
        BellForWanted woke = Check.bell("50;50", "1a");
        woke.mornings(1);
        Check.due("of one who WOKE", woke.one(0, 1), 0);
    }

    private static void unmetAtMost() {
        Check.says(0, "UNMET is 1 more (9999 at most) for each who wants some, none of whom WAKES");
        BellForWanted x = Check.bell("00;00;00;00;00;00;00", "0b;1a;2ab;3a;4a;5a;6abcdef", "0");
        x.mornings(1);
        Check.due("of each of seven", x.count(2), 7);
        for (int i = 0; i < 23; i++) {
            x.mornings(60);
        }
        x.mornings(47);
        Check.due("UNMET", x.count(2), 9996);
        x.mornings(1);
        Check.due("9999 at most", x.count(2), 9999);
        x.mornings(1);
        Check.due("no more", x.count(2), 9999);
        BellForWanted few = Check.bell("90;90;00", "0bc;1c");
        few.mornings(1);
        Check.due("one of whom WAKES; who wants nobody", few.count(2), 1);
    }

    private static void rowsCompared() {
        Check.says(0, "Rows of numbers are compared from the first on.");
        BellForWanted way = Check.bell(SEVEN, "0bc;1g;2d;6f;3f");
        Check.due("a way", way.way(0, 5), 3);
        Check.row("1, 6 ahead of 2, 3", way, 0, 1, 6, 5);
        BellForWanted served = Check.bell("90;90;90", "0bc;1c");
        Check.due("served", served.serves(), 2);
        Check.row("1, 2 alone serves both", served, 1, 2, -1);
        served.wishes(1, 0);
        Check.due("served by 0, too", served.serves(), 2);
        Check.row("1, 0 ahead of 2, 0 and 1, 2", served, 1, 0, -1);
    }

    private static void sets() {
        Check.says(0, "Sets (of PEOPLE) are bits.");
        BellForWanted x = Check.bell(SEVEN, "6a;0g");
        Check.due("0 and 6 WAKE", x.wakes(), 65);
        Check.due("6 is wanted by 0", x.one(6, 5), 1);
        Check.due("0 is wanted by 6", x.one(0, 5), 64);
        Check.due("nobody", x.one(1, 5), 0);
    }

    private static void dayGrows() {
        Check.says(0, "DAY is 1 more.");
        BellForWanted x = new BellForWanted();
        x.mornings(1);
        Check.due("DAY", x.count(1), 1);
        for (int i = 0; i < 170; i++) {
            x.mornings(60);
        }
        Check.due("without a most", x.count(1), 10201);
    }
}
