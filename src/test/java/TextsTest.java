/** Promises 1 to 8: a new object, THE TEXT, PEOPLE, WANTS, THE RULE, one, a sheet. */
public final class TextsTest {
    private static final String SEVEN = "11;22;33;44;55;66;77";

    public static void main(String[] args) {
        newObject();
        sign();
        end();
        people();
        peopleFaults();
        peopleWithoutRoom();
        wants();
        wantsFaults();
        textsForget();
        ruleValues();
        ruleThings();
        ruleFaults();
        one();
        sheet();
        sheetRefused();
        Check.ends();
    }

    private static void newObject() {
        BellForWanted x = new BellForWanted();
        for (int what = 0; what <= 12; what++) {
            Check.due("1: count(" + what + ")", x.count(what), 0);
        }
        Check.row("1: new", x);
        Check.missing("1: one(0, 0)", Check.oneThrows(x, 0, 0));
        Check.due("1: undo()", x.undo(), -1);
        Check.due("1: again(0)", x.again(0), false);
        Check.due("1: NONE", BellForWanted.NONE, -1);
        Check.due("1: forget()", x.forget(), 0);
        Check.due("1: denies()", x.denies(), 0);
    }

    private static void sign() {
        BellForWanted x = new BellForWanted();
        Check.due("2: sign", x.sign('9' << 24 | '1' << 16 | ';' << 8 | '8'), 4);
        Check.due("2: sign", x.sign('0' << 24), 8);
        Check.due("2: end(5)", x.end(5), true);
        Check.due("2: people()", x.people(), 2);
        Check.due("2: the highest byte first", x.one(0, 0), 9);
        Check.due("2: the second byte", x.one(0, 1), 1);
        Check.due("2: the lowest byte", x.one(1, 0), 8);
        for (int i = 1; i <= 20; i++) {
            Check.due("2: sign no. " + i, x.sign(-1), 4 * i);
        }
        Check.due("2: more than 80", x.sign(0), -1);
        Check.due("2: still 80", x.count(12), 80);
        Check.due("2: end(77)", x.end(77), true);
        Check.due("2: 81 would be more", x.sign(0), -1);
        Check.due("2: still 77", x.count(12), 77);
        Check.due("2: end(76)", x.end(76), true);
        Check.due("2: 80 are not more", x.sign(0), 80);
        Check.due("2: sign 255 is no digit", x.people(), -1);
    }

    private static void end() {
        BellForWanted x = new BellForWanted();
        Check.due("3: end(0) of none", x.end(0), true);
        Check.due("3: end(1) of none", x.end(1), false);
        x.sign('1' << 24 | '2' << 16 | ';' << 8);
        Check.due("3: end(-1)", x.end(-1), false);
        Check.due("3: end(5)", x.end(5), false);
        Check.due("3: end(MIN)", x.end(Integer.MIN_VALUE), false);
        Check.due("3: end(MAX)", x.end(Integer.MAX_VALUE), false);
        Check.due("3: nothing changed", x.count(12), 4);
        Check.due("3: end(4)", x.end(4), true);
        Check.due("3: all are there", x.count(12), 4);
        Check.due("3: end(2)", x.end(2), true);
        Check.due("3: two are there", x.count(12), 2);
        Check.due("3: the first two", x.people(), 1);
        Check.due("3: SKILL", x.one(0, 0), 1);
        Check.due("3: PILLS", x.one(0, 1), 2);
    }

    private static void people() {
        BellForWanted x = new BellForWanted();
        Check.due("4: empty", Check.people(x, ""), 0);
        Check.due("4: one LINE", Check.people(x, "09"), 1);
        Check.due("4: SKILL 0", x.one(0, 0), 0);
        Check.due("4: PILLS 9", x.one(0, 1), 9);
        Check.due("4: SLEPT", x.one(0, 2), 0);
        Check.due("4: WOKEN", x.one(0, 3), 0);
        Check.due("4: wants nobody", x.one(0, 4), 0);
        Check.due("4: more come", Check.people(x, "90;12"), 2);
        Check.due("4: PEOPLE", x.count(0), 3);
        Check.due("4: the first stays", x.one(0, 1), 9);
        Check.due("4: SKILL 9", x.one(1, 0), 9);
        Check.due("4: PILLS 2", x.one(2, 1), 2);
        Check.due("4: THE TEXT is empty", x.count(12), 0);
        Check.due("4: seven at once", Check.people(new BellForWanted(), SEVEN), 7);
        x.mornings(3);
        Check.people(x, "55");
        Check.due("4: SLEPT of a new one", x.one(3, 2), 0);
        Check.due("4: SLEPT of an old one", x.one(0, 2), 3);
        Check.due("4: DAY stays", x.count(1), 3);
    }

    private static void peopleFaults() {
        fault("x", -1);
        fault(";", -1);
        fault("1", -2);
        fault("1;", -2);
        fault("11x", -3);
        fault("111", -3);
        fault("11;", -4);
        fault("11;;", -4);
        fault("11;1", -5);
        fault("11;1;", -5);
        fault("1:", -2);
        fault("1/", -2);
        fault(SEVEN + ";", -21);
        fault(SEVEN + "1", -21);
        fault(SEVEN + ";88;99", -21);
        fault("11;22;33;44;55;66;7x;88", -20);
        fault("11;22;33;44;55;66;7", -20);
        fault("11;22x33;44;55;66;77;88", -6);
    }

    private static void fault(String text, int due) {
        BellForWanted x = new BellForWanted();
        Check.due("4: people() of " + text, Check.people(x, text), due);
        Check.due("4: none came of " + text, x.count(0), 0);
        Check.due("4: THE TEXT is empty behind " + text, x.count(12), 0);
    }

    private static void peopleWithoutRoom() {
        BellForWanted x = Check.bell("11;11;11;11;11", "");
        Check.due("4: no room for the third", Check.people(x, "22;33;44"), -7);
        Check.due("4: no room for the third, whatever it is", Check.people(x, "22;33;x"), -7);
        Check.due("4: a fault ahead of it", Check.people(x, "22;3x;44"), -5);
        Check.due("4: no room behind the text", Check.people(x, "22;33;"), -7);
        Check.due("4: nothing came", x.count(0), 5);
        Check.due("4: room for two", Check.people(x, "22;33"), 2);
        Check.due("4: no room at all", Check.people(x, "22"), -1);
        Check.due("4: an empty one needs no room", Check.people(x, ""), 0);
        Check.due("4: seven", x.count(0), 7);
    }

    private static void wants() {
        BellForWanted x = Check.bell(SEVEN, "");
        Check.due("5: empty", Check.wants(x, ""), 0);
        Check.due("5: LINES", Check.wants(x, "0bcdefg;6abcdef;3ag"), 3);
        Check.due("5: whom 0 wants", x.one(0, 4), 126);
        Check.due("5: whom 6 wants", x.one(6, 4), 63);
        Check.due("5: whom 3 wants", x.one(3, 4), 65);
        Check.due("5: who wants 0", x.one(0, 5), 72);
        Check.due("5: who wants 3", x.one(3, 5), 65);
        Check.due("5: one again", Check.wants(x, "3b;0b;3c"), 3);
        Check.due("5: the later LINE", x.one(3, 4), 4);
        Check.due("5: those alone", x.one(0, 4), 2);
        Check.due("5: others stay", x.one(6, 4), 63);
        Check.due("5: WANTS", x.count(3), 8);
        Check.due("5: THE TEXT is empty", x.count(12), 0);
        String sixty = "0b;0b;0b;0b;0b;0b;0b;0b;0b;0b;0b;0b;0b;0b;0b;0b;0b;0b;0b;0bc";
        Check.due("5: 60 signs", sixty.length(), 60);
        Check.due("5: sixty signs", Check.wants(x, sixty), 20);
        Check.due("5: by the last", x.one(0, 4), 6);
    }

    private static void wantsFaults() {
        BellForWanted x = Check.bell("11;22;33", "1ac");
        String[] texts = {"x", "3a", "a", "0", "0;", "0a", "2c", "0d", "0bb", "0cb", "0b;", "0b;x", "0b;3", "0b1",
            "0b ;", "1ab", "0bca", "0b;;1a", "2ab2", "7a"};
        int[] due = {-1, -1, -1, -2, -2, -2, -2, -2, -3, -3, -4, -4, -4, -3, -3, -3, -4, -4, -4, -1};
        for (int i = 0; i < texts.length; i++) {
            Check.due("5: wants() of " + texts[i], Check.wants(x, texts[i]), due[i]);
            Check.due("5: nothing changed by " + texts[i], x.one(1, 4), 5);
            Check.due("5: nor of others by " + texts[i], x.count(3), 2);
            Check.due("5: THE TEXT is empty behind " + texts[i], x.count(12), 0);
        }
        String many = "0b;0b;0b;0b;0b;0b;0b;0b;0b;0b;0b;0b;0b;0b;0b;0b;0b;0b;0b;0b;0b;0b;0b;0b;0b";
        Check.due("5: more than 60", Check.wants(x, many), -61);
        Check.due("5: more than 60, a fault at 59", Check.wants(x, many.substring(0, 59) + "b" + "0b"), -60);
        Check.due("5: more than 60, a fault at 1", Check.wants(x, "0a" + many), -2);
        Check.due("5: 60 that end too early", Check.wants(x, many.substring(0, 60)), -61);
        Check.due("5: 59 are fine", Check.wants(x, many.substring(0, 59)), 20);
        Check.due("5: without PEOPLE", Check.wants(new BellForWanted(), "0b"), -1);
    }

    /** people() and wants() forget what could be undone and what was kept; refused ones and empty ones do not. */
    private static void textsForget() {
        BellForWanted x = Check.bell("50;50", "0b;1a");
        x.wishes(0, 1);
        x.keep(0);
        Check.people(x, "");
        Check.wants(x, "");
        Check.people(x, "5");
        Check.wants(x, "0a");
        Check.rule(x, "w");
        Check.due("15: still there", x.count(10), 1);
        Check.due("48: still kept", x.again(0), true);
        x.wishes(0, 1);
        Check.wants(x, "0b");
        Check.due("15: wants() forgets", x.undo(), -1);
        Check.due("48: wants() came since", x.again(0), false);
        x.wishes(0, 1);
        x.keep(0);
        x.keep(1);
        Check.people(x, "50");
        Check.due("15: people() forgets", x.count(10), 0);
        Check.due("48: people() came since (0)", x.again(0), false);
        Check.due("48: people() came since (1)", x.again(1), false);
        Check.due("48: kept anew", x.keep(1), true);
        Check.due("48: and brought back", x.again(1), true);
    }

    /** The value of an expression in which 0 of SKILL 7 is wanted by 1 of SKILL 4 alone. */
    private static void value(String expression, int value) {
        BellForWanted x = Check.bell("70;40", "1a");
        Check.due("6: rule() of " + expression, Check.rule(x, "(" + expression + ")=" + value), 0);
        Check.due("6: " + expression + " is " + value, x.one(0, 6), 2);
    }

    private static void ruleValues() {
        value("1+2*3", 7);
        value("10-3-2", 5);
        value("2*3+4", 10);
        value("20/3/2", 3);
        value("20/3*2", 12);
        value("-7/2", -3);
        value("7/-2", -3);
        value("5/0", 0);
        value("-5/0+1", 1);
        value("--5", 5);
        value("---5", -5);
        value("3--2", 5);
        value("3*-2", -6);
        value("3-----2", 1);
        value("-(2+3)*2", -10);
        value("1+2<4", 1);
        value("4<1+2", 0);
        value("4<4", 0);
        value("4>4", 0);
        value("5>4", 1);
        value("4=4", 1);
        value("4=5", 0);
        value("(1<2)+(3>2)", 2);
        value("(1<2)<(3>4)", 0);
        value("((2))*((3))", 6);
        value("(((7)))", 7);
        value("999*999/999", 999);
        value("007", 7);
        value("100/7", 14);
        value("(1=1)=(2=2)", 1);
        value("2*(3+4)-5", 9);
        value("8-(3-(2-1))", 6);
        value("-s-t", -11);
        wraps();
        Check.due("6: 0 is not above 0", needers("0"), 0);
        Check.due("6: 1 is", needers("1"), 2);
        Check.due("6: below 0 is not", needers("0-1"), 0);
        Check.due("6: none is s-4+w", needers(""), 2);
        BellForWanted x = Check.bell("30;40", "1a", "1");
        Check.due("6: by 1", x.one(0, 6), 2);
        Check.due("6: an empty one is none", Check.rule(x, ""), 0);
        Check.due("6: 3-4+1", x.one(0, 6), 0);
    }

    private static void wraps() {
        BellForWanted x = Check.bell("70;40", "1a");
        // 999 to the third is above 2^31 - 1 only when four factors of it come together.
        int v = 999 * 999 * 999 * 999;
        Check.due("6: as ints", Check.rule(x, "999*999*999*999"), 0);
        Check.due("6: as ints, the sign", x.one(0, 6), v > 0 ? 2 : 0);
        int w = 999 * 999 * 999 * 3;
        Check.due("6: as ints", Check.rule(x, "999*999*999*3"), 0);
        Check.due("6: as ints, the sign again", x.one(0, 6), w > 0 ? 2 : 0);
        // 2^31 by -1 is 2^31 again as ints, and below 0.
        Check.due("6: the least int", Check.rule(x, "(512*512*512*16)/-1<0"), 0);
        Check.due("6: the least int by -1", x.one(0, 6), 2);
    }

    private static int needers(String rule) {
        return Check.bell("70;40", "1a", rule).one(0, 6);
    }

    private static void ruleThings() {
        BellForWanted x = Check.bell("30;50;90;20", "0b;1a;2abd;3a");
        x.mornings(9);
        // 0 is wanted by 1, 2, 3; 1 by 0, 2; 3 by 2. 0 WAKES: 3-4+3 is above 0; 3 SLEPT 9 (2-4+1 is not).
        thing(x, "s=3", 0, 14);
        thing(x, "t=5", 0, 2);
        thing(x, "t=9", 0, 4);
        thing(x, "t=2", 0, 8);
        thing(x, "w=3", 0, 14);
        thing(x, "w=2", 1, 5);
        thing(x, "v=1", 0, 10);
        thing(x, "v=3", 0, 4);
        thing(x, "b", 0, 2);
        thing(x, "b=0", 0, 12);
        thing(x, "b", 1, 1);
        thing(x, "n=2", 0, 14);
        thing(x, "n=9", 0, 0);
        thing(x, "u=9", 3, 4);
        thing(x, "u=0", 0, 14);
    }

    private static void thing(BellForWanted x, String rule, int one, int due) {
        Check.due("6: rule() of " + rule, Check.rule(x, rule), 0);
        Check.due("6: " + rule + " of " + one, x.one(one, 6), due);
    }

    private static void ruleFaults() {
        BellForWanted x = Check.bell("70;40", "1a", "1");
        String[] texts = {"z", " ", "S", "+", "s+", "s++t", "s<t<w", "s<t>w", "s=t=w", "s<t+1<w", "(s", "()", ")",
            "s)", "(s))", "(((((s", "((((s))))+(((((s", "1000", "12345", "s1", "1s", "st", "(s)t", "(s)(t)", "s(t)",
            "-", "s-", "s*/t", "s!", "1 ", "(s<t)<w<v", "(s<t<w)", "s<(t", "<s", "a", "(1)2"};
        int[] due = {-1, -1, -1, -1, -3, -3, -4, -4, -4, -6, -3, -2, -1,
            -2, -4, -5, -15, -4, -4, -2, -2, -2, -4, -4, -2,
            -2, -3, -3, -2, -2, -8, -5, -5, -1, -1, -4};
        for (int i = 0; i < texts.length; i++) {
            Check.due("6: rule() of " + texts[i], Check.rule(x, texts[i]), due[i]);
            Check.due("6: THE RULE stays behind " + texts[i], x.one(0, 6), 2);
            Check.due("6: THE TEXT is empty behind " + texts[i], x.count(12), 0);
            Check.due("45: law() of " + texts[i], Check.law(x, texts[i]), -10000 + 1 + due[i]);
        }
        String forty = "s+1+1+1+1+1+1+1+1+1+1+1+1+1+1+1+1+1+12";
        Check.due("6: 38 signs and two", (forty + "-1").length(), 40);
        Check.due("6: 40 signs", Check.rule(x, forty + "-1"), 0);
        Check.due("6: 41 signs", Check.rule(x, forty + "-1+"), -41);
        Check.due("6: 41 signs, all fine", Check.rule(x, forty + "-11"), -41);
        Check.due("6: 41 signs, the last can't", Check.rule(x, forty + "-1x"), -41);
        Check.due("6: 42 signs, a fault at 39", Check.rule(x, forty + "-x11"), -40);
        Check.due("6: 40 signs that end too early", Check.rule(x, forty + "--"), -41);
        Check.due("6: 40 signs with a bracket open", Check.rule(x, "(" + forty.substring(0, 36) + "1+1"), -41);
        Check.due("6: 4 deep", Check.rule(x, "((((s))))*((((1))))"), 0);
        Check.due("6: many ahead", Check.rule(x, "---------------------------------------s"), 0);
        Check.due("6: 39 of them", x.one(0, 6), 0);
        x.mornings(1);
        Check.rule(x, "1");
        x.undo();
        Check.due("6: undo() leaves THE RULE", x.one(0, 6), 2);
    }

    private static void one() {
        BellForWanted x = Check.bell("51;30;72", "0bc;1a;2b");
        x.mornings(1);
        int[][] due = {{5, 0, 1, 0, 6, 2, 2}, {3, 0, 0, 1, 1, 5, 5}, {7, 1, 1, 0, 2, 1, 1}};
        for (int one = 0; one < 3; one++) {
            for (int what = 0; what < 7; what++) {
                Check.due("7: one(" + one + ", " + what + ")", x.one(one, what), due[one][what]);
            }
        }
        Check.missing("7: one(3, 0)", Check.oneThrows(x, 3, 0));
        Check.missing("7: one(-1, 0)", Check.oneThrows(x, -1, 0));
        Check.missing("7: one(0, 7)", Check.oneThrows(x, 0, 7));
        Check.missing("7: one(0, -1)", Check.oneThrows(x, 0, -1));
        Check.missing("7: one(MAX, 0)", Check.oneThrows(x, Integer.MAX_VALUE, 0));
        Check.missing("7: one(MIN, MIN)", Check.oneThrows(x, Integer.MIN_VALUE, Integer.MIN_VALUE));
    }

    private static void sheet() {
        BellForWanted x = Check.bell("10;10;10;10", "");
        skills(x, "ints", x.sheet(2, 4, 3, 2), 3, 5, 7, 9);
        skills(x, "ints above 9", x.sheet(2, 4, 8, 1), 8, 9, 9, 9);
        skills(x, "ints below 0", x.sheet(2, 4, 1, -1), 1, 0, 0, 0);
        skills(x, "fewer", x.sheet(2, 2, 4, 1), 4, 5, 0, 0);
        skills(x, "none", x.sheet(2, 0, 4, 1), 0, 0, 0, 0);
        skills(x, "more than there are", x.sheet(2, 7, 1, 1), 1, 2, 3, 4);
        skills(x, "bytes", x.sheet(0, 4, 256 + 5, 128), 5, 0, 5, 0);
        skills(x, "bytes of 127, 128", x.sheet(0, 4, 127, 1), 9, 0, 0, 0);
        skills(x, "shorts", x.sheet(1, 4, 65536 + 6, 32768), 6, 0, 6, 0);
        skills(x, "shorts of 32767, 32768", x.sheet(1, 4, 32767, 1), 9, 0, 0, 0);
        skills(x, "shorts of 256", x.sheet(1, 4, 256, 0), 9, 9, 9, 9);
        skills(x, "ints of 65536", x.sheet(2, 4, 65536, 0), 9, 9, 9, 9);
        skills(x, "ints that wrap", x.sheet(2, 4, Integer.MAX_VALUE, 1), 9, 0, 0, 0);
        skills(x, "ints that wrap to 3", x.sheet(2, 3, Integer.MIN_VALUE + 2, Integer.MIN_VALUE + 1), 0, 3, 0, 0);
        x.sheet(2, 4, 1, 1);
        Check.due("8: missing", x.sheet(3, 0, 5, 5), -3);
        Check.due("8: all 0", x.count(4), 0);
        Check.due("8: without PEOPLE", new BellForWanted().sheet(2, 3, 5, 0), 0);
    }

    private static void skills(BellForWanted x, String how, int sum, int... due) {
        int all = 0;
        for (int i = 0; i < due.length; i++) {
            Check.due("8: " + how + ", SKILL of " + i, x.one(i, 0), due[i]);
            all += due[i];
        }
        Check.due("8: " + how + ", the sum", sum, all);
    }

    private static void sheetRefused() {
        BellForWanted x = Check.bell("10;20", "0b");
        Check.due("8: kind 4", x.sheet(4, 1, 5, 0), -1);
        Check.due("8: kind -1", x.sheet(-1, 1, 5, 0), -1);
        Check.due("8: n 8", x.sheet(0, 8, 5, 0), -1);
        Check.due("8: n 8 of a missing one", x.sheet(3, 8, 5, 0), -1);
        Check.due("8: another kind, n below 0", x.sheet(4, -1, 5, 0), -1);
        Check.due("8: bytes, n below 0", x.sheet(0, -1, 5, 0), -2);
        Check.due("8: shorts, n below 0", x.sheet(1, -5, 5, 0), -2);
        Check.due("8: ints, n below 0", x.sheet(2, Integer.MIN_VALUE, 5, 0), -2);
        Check.due("8: nothing changed", x.count(4), 3);
        Check.due("8: missing, n below 0", x.sheet(3, -1, 5, 0), -3);
        Check.due("8: all 0 then", x.count(4), 0);
        x.sheet(2, 2, 6, 1);
        x.wishes(1, 0);
        x.sheet(2, 2, 3, 1);
        Check.due("8: can't be undone by itself", x.count(10), 1);
        Check.due("15: undo()", x.undo(), 0);
        Check.due("15: SKILL as ahead of wishes()", x.count(4), 13);
        x.keep(0);
        x.sheet(3, 0, 0, 0);
        Check.due("48: a sheet does not forbid", x.again(0), true);
        Check.due("48: SKILL as kept", x.count(4), 13);
    }
}
