/** Promises 1 to 7: a test of its own for each sentence that names a boundary. */
public final class EdgesTextsTest {
    private static final String SEVEN = "11;22;33;44;55;66;77";
    private static final String THIRTY = "0b;0b;0b;0b;0b;0b;0b;0b;0b;0b;0b;0b;0b;0b;0b;0b;0b;0b;0b;0b;0b;0b;0b;0b;0b;0b";
    private static final String FORTY = "s+1+1+1+1+1+1+1+1+1+1+1+1+1+1+1+1+1+1-12";

    public static void main(String[] args) {
        newObject();
        signOrder();
        signMany();
        signFull();
        endAll();
        endRefused();
        peopleEmpty();
        peopleLines();
        peopleSign();
        peopleEndsEarly();
        peopleTwenty();
        peopleNoRoom();
        peopleNothingComes();
        wantsEmpty();
        wantsTwice();
        wantsSixty();
        wantsAtIt();
        wantsEndsEarly();
        wantsNothingComes();
        ruleEmpty();
        ruleForty();
        ruleEndsEarly();
        oneEach();
        oneMissing();
        oneWhat();
        Check.ends();
    }

    private static void newObject() {
        Check.says(1, "No PEOPLE.");
        BellForWanted x = new BellForWanted();
        Check.due("PEOPLE", x.count(0), 0);
        Check.missing("one(0, 0)", Check.oneThrows(x, 0, 0));
        for (int what = 1; what <= 12; what++) {
            Check.due("count(" + what + ")", x.count(what), 0);
        }
        Check.due("undo()", x.undo(), -1);
        Check.due("again(0)", x.again(0), false);
        Check.due("again(1)", x.again(1), false);
    }

    private static void signOrder() {
        Check.says(2, "Four signs come behind THE TEXT, of v the highest byte first");
        BellForWanted x = new BellForWanted();
        x.sign(0x31323B33);
        x.sign(0x34000000);
        x.end(5);
        Check.due("12;34", x.people(), 2);
        Check.due("the highest byte", x.one(0, 0), 1);
        Check.due("the lowest byte", x.one(1, 0), 3);
        Check.due("the first of the next", x.one(1, 1), 4);
        // Bytes above 127 are signs of their own, and neither digits nor a sign less.
        x.sign(0xB5303B30);
        Check.due("a byte above 127", x.people(), -1);
        x.sign(0x3530BB30);
        Check.due("a byte above 127 for ;", x.people(), -3);
    }

    private static void signMany() {
        Check.says(2, "how many it has");
        BellForWanted x = new BellForWanted();
        Check.due("of none", x.sign(Integer.MIN_VALUE), 4);
        Check.due("of four", x.sign(Integer.MAX_VALUE), 8);
        x.end(1);
        Check.due("of one", x.sign(-1), 5);
        Check.due("of five", x.sign(0), 9);
    }

    private static void signFull() {
        Check.says(2, "Refused: there would be more than 80.");
        BellForWanted x = new BellForWanted();
        for (int i = 1; i <= 20; i++) {
            Check.due("sign no. " + i, x.sign(i), 4 * i);
        }
        for (int n = 80; n >= 77; n--) {
            Check.due("end(" + n + ")", x.end(n), true);
            Check.due("behind " + n, x.sign(1), -1);
            Check.due("there are still " + n, x.count(12), n);
        }
        x.end(76);
        Check.due("behind 76", x.sign(1), 80);
    }

    private static void endAll() {
        Check.says(3, "THE TEXT has its first n signs alone: true");
        BellForWanted x = new BellForWanted();
        Check.due("none of none", x.end(0), true);
        x.sign(0x31323B33);
        Check.due("all of four", x.end(4), true);
        Check.due("there are four", x.count(12), 4);
        Check.due("two of four", x.end(2), true);
        Check.due("there are two", x.count(12), 2);
        x.sign(0x3B333400);
        x.end(5);
        Check.due("what comes behind the first two", x.people(), 2);
        Check.due("the last", x.one(1, 1), 4);
        x.sign(0);
        Check.due("none of four", x.end(0), true);
        Check.due("there are none", x.count(12), 0);
    }

    private static void endRefused() {
        Check.says(3, "false if it has not so many, or n is below 0.");
        BellForWanted x = new BellForWanted();
        Check.due("one of none", x.end(1), false);
        Check.due("below 0 of none", x.end(-1), false);
        x.sign(0x31323B33);
        Check.due("five of four", x.end(5), false);
        Check.due("80 of four", x.end(80), false);
        Check.due("the most", x.end(Integer.MAX_VALUE), false);
        Check.due("below 0", x.end(-1), false);
        Check.due("the least", x.end(Integer.MIN_VALUE), false);
        Check.due("there are still four", x.count(12), 4);
        x.end(2);
        Check.due("signs that were cut do not come again", x.end(4), false);
    }

    private static void peopleEmpty() {
        Check.says(4, "(an empty one: nothing)");
        BellForWanted x = new BellForWanted();
        Check.due("at first", x.people(), 0);
        Check.due("nobody comes", x.count(0), 0);
        Check.people(x, SEVEN);
        Check.due("without room", Check.people(x, ""), 0);
        Check.due("seven are there", x.count(0), 7);
    }

    private static void peopleLines() {
        Check.says(4, "how many LINES");
        for (int n = 1; n <= 7; n++) {
            BellForWanted x = new BellForWanted();
            Check.due("of " + n, Check.people(x, SEVEN.substring(0, 3 * n - 1)), n);
            Check.due("PEOPLE", x.count(0), n);
            Check.due("SKILL of the last", x.one(n - 1, 0), n);
        }
        BellForWanted x = Check.bell("11;22", "");
        Check.due("of those that come alone", Check.people(x, "33"), 1);
        Check.due("behind the others", x.one(2, 0), 3);
    }

    private static void noPeople(String text, int due) {
        BellForWanted x = new BellForWanted();
        Check.due("people() of " + text, Check.people(x, text), due);
        Check.due("none came of " + text, x.count(0), 0);
    }

    private static void peopleSign() {
        Check.says(4, "-1 - p: the sign at p can't stand there");
        noPeople("x1", -1);
        noPeople("/1", -1);
        noPeople(":1", -1);
        noPeople(";", -1);
        noPeople("1x", -2);
        noPeople("1/", -2);
        noPeople("1:", -2);
        noPeople("1;", -2);
        noPeople("111", -3);
        noPeople("11:", -3);
        noPeople("11<", -3);
        noPeople("11 ", -3);
        noPeople("11;;", -4);
        noPeople("11;2a", -5);
        noPeople("11;22;33;44;55;66;7x", -20);
    }

    private static void peopleEndsEarly() {
        Check.says(4, "its end, if it ends too early");
        noPeople("1", -2);
        noPeople("11;", -4);
        noPeople("11;2", -5);
        noPeople("11;22;33;44;55;66;", -19);
        noPeople("11;22;33;44;55;66;7", -20);
    }

    private static void peopleTwenty() {
        Check.says(4, "20, if it has more and the first 20 could go on or end");
        noPeople(SEVEN + ";", -21);
        noPeople(SEVEN + "x", -21);
        noPeople(SEVEN + ";88", -21);
        noPeople(SEVEN + ";88;99;11;22;33;44;55;66;77;88;99;11;22;33;44;55;66;77;88;99", -21);
        noPeople("x" + SEVEN, -1);
        noPeople("11;22;33;44;55;66;7x;88", -20);
    }

    private static void peopleNoRoom() {
        Check.says(4, "the first sign of a LINE for which there is no room");
        for (int there = 1; there <= 7; there++) {
            BellForWanted x = Check.bell(SEVEN.substring(0, 3 * there - 1), "");
            Check.due("behind " + there, Check.people(x, SEVEN), -1 - 3 * (7 - there));
            Check.due("PEOPLE behind " + there, x.count(0), there);
        }
        BellForWanted x = Check.bell("11;11;11;11;11", "");
        Check.due("whatever stands there", Check.people(x, "22;33;x"), -7);
        Check.due("nothing stands there", Check.people(x, "22;33;"), -7);
        Check.due("a fault ahead of it", Check.people(x, "22;3x;44"), -5);
        Check.due("there is room for two", Check.people(x, "22;33"), 2);
        Check.due("there is none for one", Check.people(x, "4"), -1);
    }

    private static void peopleNothingComes() {
        Check.says(4, "Nothing of it comes, if a LINE can't.");
        BellForWanted x = Check.bell("11;22", "0b;1a");
        Check.due("the second LINE can't", Check.people(x, "33;4x"), -5);
        Check.due("there are two", x.count(0), 2);
        Check.due("the sixth has no room", Check.people(x, "33;44;55;66;77;88"), -16);
        Check.due("there are still two", x.count(0), 2);
        Check.due("the next is the third", Check.people(x, "99"), 1);
        Check.due("he is", x.one(2, 0), 9);
    }

    private static void wantsEmpty() {
        Check.says(5, "(an empty one: nothing)");
        BellForWanted x = Check.bell("11;22", "0b");
        Check.due("empty", Check.wants(x, ""), 0);
        Check.due("whom 0 wants", x.one(0, 4), 2);
        Check.due("without PEOPLE", new BellForWanted().wants(), 0);
    }

    private static void wantsTwice() {
        Check.says(5, "how many LINES (one who is told twice wants whom the later LINE tells)");
        BellForWanted x = Check.bell("11;22;33", "0b;1a");
        Check.due("three LINES", Check.wants(x, "0bc;2a;0c"), 3);
        Check.due("by the later one", x.one(0, 4), 4);
        Check.due("who is not told", x.one(1, 4), 1);
        Check.due("thrice", Check.wants(x, "1c;1ac;1a"), 3);
        Check.due("by the last", x.one(1, 4), 1);
    }

    private static void wantsSixty() {
        Check.says(5, "likewise (60 signs");
        BellForWanted x = Check.bell("11;22;33", "1c");
        Check.due("61 that could end there", Check.wants(x, THIRTY.substring(0, 61)), -61);
        Check.due("61, the next can't stand", Check.wants(x, THIRTY.substring(0, 60) + "x"), -61);
        Check.due("77", Check.wants(x, THIRTY), -61);
        Check.due("60 that end too early", Check.wants(x, THIRTY.substring(0, 60)), -61);
        Check.due("61, the 60th can't stand", Check.wants(x, THIRTY.substring(0, 59) + "bb"), -60);
        Check.due("77, the second can't stand", Check.wants(x, "0a" + THIRTY.substring(2)), -2);
        Check.due("nothing changed", x.one(1, 4), 4);
        Check.due("nor here", x.one(0, 4), 0);
        Check.due("60", Check.wants(x, THIRTY.substring(0, 59) + "c"), 20);
    }

    private static void wantsAtIt() {
        Check.says(5, "one who is not there, himself, a letter not above the one ahead: at it");
        BellForWanted x = Check.bell("11;22;33", "1c");
        Check.due("one who is not there", Check.wants(x, "3a"), -1);
        Check.due("one who is not there, later", Check.wants(x, "0b;3a"), -4);
        Check.due("one who is not there is wanted", Check.wants(x, "0bd"), -3);
        Check.due("himself", Check.wants(x, "0a"), -2);
        Check.due("himself, later", Check.wants(x, "0b;2abc"), -7);
        Check.due("a like letter", Check.wants(x, "0cc"), -3);
        Check.due("a lower letter", Check.wants(x, "0cb"), -3);
        Check.due("a letter of a digit's place", Check.wants(x, "a"), -1);
        Check.due("a digit of a letter's place", Check.wants(x, "01"), -2);
        Check.due("a digit behind letters", Check.wants(x, "0b1a"), -3);
        Check.due("without PEOPLE", Check.wants(new BellForWanted(), "0b"), -1);
        Check.due("alone", Check.wants(Check.bell("11", ""), "0a"), -2);
        Check.due("alone, another one", Check.wants(Check.bell("11", ""), "0b"), -2);
    }

    private static void wantsEndsEarly() {
        Check.says(5, "-1 - p: likewise");
        BellForWanted x = Check.bell("11;22;33", "1c");
        Check.due("behind a digit", Check.wants(x, "0"), -2);
        Check.due("behind ;", Check.wants(x, "0b;"), -4);
        Check.due("behind a later digit", Check.wants(x, "0b;1"), -5);
        Check.due("; at first", Check.wants(x, ";"), -1);
        Check.due("; behind a digit", Check.wants(x, "0;1a"), -2);
        Check.due("; behind ;", Check.wants(x, "0b;;1a"), -4);
        Check.due("alone", Check.wants(Check.bell("11", ""), "0"), -2);
    }

    private static void wantsNothingComes() {
        Check.says(5, "-1 - p: likewise");
        BellForWanted x = Check.bell("11;22;33", "0b;1c");
        Check.due("the second LINE can't", Check.wants(x, "0c;1b"), -5);
        Check.due("of 0", x.one(0, 4), 2);
        Check.due("of 1", x.one(1, 4), 4);
        Check.due("WANTS", x.count(3), 2);
    }

    private static void ruleEmpty() {
        Check.says(6, "(an empty one: none): 0");
        BellForWanted x = Check.bell("30;40", "1a", "1");
        Check.due("by 1", x.one(0, 6), 2);
        Check.due("empty", Check.rule(x, ""), 0);
        Check.due("3-4+1", x.one(0, 6), 0);
        x.learns(0, 4);
        Check.due("4-4+1", x.one(0, 6), 2);
    }

    private static void ruleForty() {
        Check.says(6, "likewise (40 signs)");
        BellForWanted x = Check.bell("30;40", "1a", "1");
        Check.due("forty", FORTY.length(), 40);
        Check.due("41 that could end there", Check.rule(x, FORTY + "1"), -41);
        Check.due("41, the next can't stand", Check.rule(x, FORTY + "x"), -41);
        Check.due("80", Check.rule(x, FORTY + FORTY), -41);
        Check.due("41, the 40th can't stand", Check.rule(x, FORTY.substring(0, 39) + "x1"), -40);
        Check.due("41, the first can't stand", Check.rule(x, "x" + FORTY), -1);
        Check.due("41, a bracket open", Check.rule(x, "(" + FORTY), -41);
        Check.due("THE RULE stays", x.one(0, 6), 2);
        Check.due("40", Check.rule(x, FORTY), 0);
        // 3 + 18 - 12 is above 0, and so is each SKILL's.
        Check.due("by the forty", x.worth(0), 0);
    }

    private static void ruleEndsEarly() {
        Check.says(6, "-1 - p: likewise");
        BellForWanted x = Check.bell("30;40", "1a", "1");
        Check.due("behind +", Check.rule(x, "s+"), -3);
        Check.due("behind -", Check.rule(x, "-"), -2);
        Check.due("behind <", Check.rule(x, "s<"), -3);
        Check.due("behind *", Check.rule(x, "s*"), -3);
        Check.due("behind (", Check.rule(x, "("), -2);
        Check.due("in brackets", Check.rule(x, "(s"), -3);
        Check.due("40 behind +", Check.rule(x, FORTY.substring(0, 39) + "+"), -41);
        Check.due("40 with a bracket open", Check.rule(x, "(" + FORTY.substring(0, 37) + "+1"), -41);
        Check.due("40 signs that end in -", Check.rule(x, FORTY.substring(0, 38) + "--"), -41);
        Check.due("THE RULE stays", x.one(0, 6), 2);
    }

    private static void oneEach() {
        Check.says(7, "6: by whom he is NEEDED now (bits; PILLS aside)");
        BellForWanted x = Check.bell("91;50;09", "1a;2a;0c");
        Check.due("with PILLS", x.one(0, 6), 6);
        Check.due("he does not WAKE", x.wakes() & 1, 0);
        Check.due("by nobody", x.one(1, 6), 0);
        Check.due("wanted, not NEEDED", x.one(2, 5), 1);
        Check.due("by none", x.one(2, 6), 0);
    }

    private static void oneMissing() {
        Check.says(7, "NoSuchElementException: none such");
        BellForWanted x = Check.bell("11;22", "");
        int[] missing = {-1, 2, 6, 7, Integer.MIN_VALUE, Integer.MAX_VALUE};
        for (int one : missing) {
            for (int what = 0; what <= 6; what++) {
                Check.missing("one(" + one + ", " + what + ")", Check.oneThrows(x, one, what));
            }
        }
        Check.due("the last one", x.one(1, 0), 2);
        Check.missing("without PEOPLE", Check.oneThrows(new BellForWanted(), 0, 0));
    }

    private static void oneWhat() {
        Check.says(7, "another what");
        BellForWanted x = Check.bell("11;22", "");
        int[] others = {-1, 7, Integer.MIN_VALUE, Integer.MAX_VALUE};
        for (int what : others) {
            Check.missing("one(0, " + what + ")", Check.oneThrows(x, 0, what));
        }
        Check.due("6 is one", Check.oneThrows(x, 0, 6), false);
    }
}
