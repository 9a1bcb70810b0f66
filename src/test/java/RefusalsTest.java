import java.util.Arrays;
import java.util.function.Supplier;
import java.util.function.ToIntFunction;

/**
 * What Terms say of refused calls, of questions and of the ROW, held to for each call of the face: two objects are
 * made alike, one of them is asked, and then both must tell the same of all they hold, what they could undo too.
 */
public final class RefusalsTest {
    private static final String EIGHTY = "n1n1n1n1n1n1n1n1n1n1n1n1n1n1n1n1n1n1n1n1n1n1n1n1n1n1n1n1n1n1n1n1n1n1n1n1n1n1n1n1";

    public static void main(String[] args) {
        ofSigns();
        ofTexts();
        textsThatAreRead();
        ofRules();
        ofActs();
        ofUndo();
        ofMorningsToCome();
        ofServing();
        ofFollowing();
        ofGuessing();
        ofFullRows();
        ofOdds();
        ofKept();
        ofExceptions();
        noneFirst();
        questionsOfWaking();
        questionsOfServing();
        questionsOfGuessing();
        questionsOfLaw();
        rowsOfQuestions();
        callsWithoutRow();
        Check.ends();
    }

    /** Four PEOPLE with a past, both numbers kept, something heard and seen, a ROW of four and a text of three. */
    private static BellForWanted rich() {
        BellForWanted x = Check.bell("50;31;72;40", "0bc;1a;2bd;3a", "s-4+w-(n=5)");
        x.mornings(2);
        x.keep(0);
        x.wishes(3, 1);
        x.pills(0, 2);
        x.learns(1, 8);
        x.keep(1);
        x.heard(0, 3);
        x.heard(2, 1);
        x.saw(5, 2, 1);
        x.saw(1, 1, 0);
        x.serves();
        return Check.text(x, "t-w");
    }

    /** The same with one want and no more of them, so that few questions have an answer. */
    private static BellForWanted poor() {
        BellForWanted x = Check.bell("50;09", "0b");
        x.pills(0, 1);
        x.keep(1);
        x.heard(0, 9);
        x.saw(0, 0, 1);
        x.serves();
        return Check.text(x, "t-w");
    }

    /** Nobody, but DAYS. */
    private static BellForWanted nobody() {
        BellForWanted x = new BellForWanted();
        x.mornings(3);
        return Check.text(x, "t-w");
    }

    private static void refused(String call, Supplier<BellForWanted> made, ToIntFunction<BellForWanted> asks, int due) {
        BellForWanted x = made.get();
        BellForWanted y = made.get();
        Check.due(call, asks.applyAsInt(x), due);
        Check.same(call + " changes nothing", Check.all(x), Check.all(y));
    }

    private static void refused(String call, ToIntFunction<BellForWanted> asks, int due) {
        refused(call, RefusalsTest::rich, asks, due);
    }

    private static int of(boolean is) {
        return is ? 1 : 0;
    }

    private static void ofSigns() {
        Check.says(0, "Refused calls answer NONE, or false, and change nothing");
        Supplier<BellForWanted> full = () -> Check.text(rich(), EIGHTY);
        refused("sign() of 80", full, x -> x.sign(0x30303030), -1);
        refused("sign() of 77", () -> Check.text(rich(), EIGHTY.substring(0, 77)), x -> x.sign(0x30303030), -1);
        refused("end(-1)", x -> of(x.end(-1)), 0);
        refused("end(4) of 3", x -> of(x.end(4)), 0);
        refused("end(81) of 80", full, x -> of(x.end(81)), 0);
    }

    /** A call that reads THE TEXT empties it, refused or not: the other object's text is cut to none. */
    private static void empties(String call, String text, ToIntFunction<BellForWanted> asks, int due) {
        BellForWanted x = Check.text(rich(), text);
        BellForWanted y = rich();
        Check.due(call + " of " + text, asks.applyAsInt(x), due);
        Check.due("signs behind " + call, x.count(12), 0);
        y.end(0);
        Check.same(call + " of " + text, Check.all(x), Check.all(y));
    }

    private static void ofTexts() {
        Check.says(0, "change nothing but THE TEXT, which a call that reads it empties");
        empties("people()", "5x", BellForWanted::people, -2);
        empties("people()", "50;50;50;50", BellForWanted::people, -10);
        empties("people()", "50;", BellForWanted::people, -4);
        empties("people()", EIGHTY, BellForWanted::people, -1);
        empties("wants()", "0b;1x", BellForWanted::wants, -5);
        empties("wants()", "0b;1", BellForWanted::wants, -5);
        empties("wants()", "0b;4a", BellForWanted::wants, -4);
        empties("rule()", "1+", BellForWanted::rule, -3);
        empties("rule()", "1x", BellForWanted::rule, -2);
        empties("week()", "n1n", BellForWanted::week, -4);
        empties("week()", "n1x", BellForWanted::week, -3);
        empties("week()", EIGHTY, BellForWanted::week, -61);
        empties("law()", "1+", BellForWanted::law, -10002);
        empties("law()", "1x", BellForWanted::law, -10001);
        empties("people()", "", BellForWanted::people, 0);
        empties("wants()", "", BellForWanted::wants, 0);
    }

    private static void textsThatAreRead() {
        Check.says(0, "THE TEXT, which a call that reads it empties");
        BellForWanted x = rich();
        Check.due("people()", Check.people(x, "50"), 1);
        Check.due("signs behind people()", x.count(12), 0);
        Check.due("wants()", Check.wants(x, "0b;1a"), 2);
        Check.due("signs behind wants()", x.count(12), 0);
        Check.due("rule()", Check.rule(x, "s+1"), 0);
        Check.due("signs behind rule()", x.count(12), 0);
        Check.due("week()", Check.week(x, "n1"), 1);
        Check.due("signs behind week()", x.count(12), 0);
        Check.due("week() of which none is done", Check.week(x, "t00"), 0);
        Check.due("signs behind it", x.count(12), 0);
        Check.due("law()", Check.law(x, "s+1"), 0);
        Check.due("signs behind law()", x.count(12), 0);
        Check.text(x, "n1");
        x.wakes();
        x.mornings(1);
        x.undo();
        Check.due("a call that does not read it", x.count(12), 2);
    }

    /** What of a text was read ahead of its fault leaves no trace in the next one that is read. */
    private static void ofRules() {
        Check.says(0, "Refused calls answer NONE, or false, and change nothing");
        String[] faults = {"-", "---", "(", "((((", "1+", "1<", "1*", "(1<2", "(((1-(2*-", "1000", "12x", "-(-", "2-x",
            "0*"};
        for (String fault : faults) {
            for (int way = 0; way <= 1; way++) {
                BellForWanted x = Check.bell("50;50", "0b", "0");
                int answer = way == 0 ? Check.rule(x, fault) : Check.law(x, fault);
                Check.due("a fault in " + fault, answer < 0, true);
                Check.due("THE RULE stays behind " + fault, x.wakes(), 0);
                Check.due("the next rule behind " + fault, Check.rule(x, "3-2"), 0);
                Check.due("who WAKES by it behind " + fault, x.wakes(), 2);
                Check.due("the next fault behind " + fault, Check.rule(x, "1)"), -2);
                Check.due("one of four brackets behind " + fault, Check.rule(x, "((((1))))"), 0);
                Check.due("none behind " + fault, Check.rule(x, ""), 0);
                Check.due("who WAKES by none behind " + fault, x.wakes(), 2);
            }
        }
    }

    private static void ofActs() {
        Check.says(0, "Refused calls answer NONE, or false, and change nothing");
        refused("sheet(4, 0, 1, 1)", x -> x.sheet(4, 0, 1, 1), -1);
        refused("sheet(-1, 0, 1, 1)", x -> x.sheet(-1, 0, 1, 1), -1);
        refused("sheet(2, 8, 1, 1)", x -> x.sheet(2, 8, 1, 1), -1);
        refused("sheet(3, 8, 1, 1)", x -> x.sheet(3, 8, 1, 1), -1);
        refused("sheet(2, -1, 1, 1)", x -> x.sheet(2, -1, 1, 1), -2);
        refused("mornings(-1)", x -> x.mornings(-1), -1);
        refused("mornings(61)", x -> x.mornings(61), -1);
        refused("wishes(0, 0)", x -> x.wishes(0, 0), -1);
        refused("wishes(0, 4)", x -> x.wishes(0, 4), -1);
        refused("wishes(4, 0)", x -> x.wishes(4, 0), -1);
        refused("wishes(-1, 0)", x -> x.wishes(-1, 0), -1);
        refused("pills(0, 8)", x -> x.pills(0, 8), -2);
        refused("pills(0, 0)", x -> x.pills(0, 0), -1);
        refused("pills(1, 10)", x -> x.pills(1, 10), -1);
        refused("pills(4, 1)", x -> x.pills(4, 1), -1);
        refused("learns(1, 8)", x -> x.learns(1, 8), -2);
        refused("learns(1, 10)", x -> x.learns(1, 10), -1);
        refused("learns(4, 1)", x -> x.learns(4, 1), -1);
        refused("leaves(4)", x -> x.leaves(4), -1);
        refused("leaves(-1)", x -> x.leaves(-1), -1);
        refused("leaves(2) without WANTS", () -> Check.bell("50;50;50", "0b"), x -> x.leaves(2), -2);
    }

    private static void ofUndo() {
        Check.says(0, "Refused calls answer NONE, or false, and change nothing");
        Supplier<BellForWanted> undone = () -> {
            BellForWanted x = rich();
            for (int i = 0; i < 4; i++) {
                x.undo();
            }
            return x;
        };
        refused("undo() of none", undone, BellForWanted::undo, -1);
    }

    private static void ofMorningsToCome() {
        Check.says(0, "the ROW stays with each answer below 0");
        refused("later(4, 1)", x -> x.later(4, 1), -1);
        refused("later(0, -1)", x -> x.later(0, -1), -1);
        refused("later(0, 100)", x -> x.later(0, 100), -1);
        refused("when(4)", x -> x.when(4), -1);
        refused("when(0) on none", RefusalsTest::poor, x -> x.when(0), -2);
        refused("quiet() on none", () -> {
            BellForWanted x = Check.bell("50;50", "0b", "1");
            x.serves();
            return x;
        }, BellForWanted::quiet, -2);
        refused("runs(4, 1)", x -> x.runs(4, 1), -1);
        refused("runs(0, 0)", x -> x.runs(0, 0), -1);
        refused("runs(0, 100)", x -> x.runs(0, 100), -1);
        refused("each() behind none", RefusalsTest::poor, BellForWanted::each, -2);
        refused("busiest(0)", x -> x.busiest(0), -1);
        refused("busiest(100)", x -> x.busiest(100), -1);
        refused("busiest(1) without PEOPLE", RefusalsTest::nobody, x -> x.busiest(1), -2);
    }

    private static void ofServing() {
        Check.says(0, "the ROW stays with each answer below 0");
        refused("boot() without", () -> {
            BellForWanted x = Check.bell("50;50", "0b");
            x.serves();
            return x;
        }, BellForWanted::boot, -2);
        refused("steps(4)", x -> x.steps(4), -1);
        refused("steps(1) by no two", RefusalsTest::poor, x -> x.steps(1), -2);
        refused("sleeps(4)", x -> x.sleeps(4), -1);
        refused("sleeps(-1)", x -> x.sleeps(-1), -1);
        refused("worth(4)", x -> x.worth(4), -1);
        refused("worth(0) by none", RefusalsTest::poor, x -> x.worth(0), -2);
        refused("spares() without PEOPLE", RefusalsTest::nobody, BellForWanted::spares, -2);
    }

    private static void ofFollowing() {
        Check.says(0, "the ROW stays with each answer below 0");
        refused("follows(4)", x -> x.follows(4), -1);
        refused("follows(-1)", x -> x.follows(-1), -1);
        refused("ring() without", RefusalsTest::poor, BellForWanted::ring, -2);
        refused("way(0, 4)", x -> x.way(0, 4), -1);
        refused("way(4, 0)", x -> x.way(4, 0), -1);
        refused("way(1, 0) without", RefusalsTest::poor, x -> x.way(1, 0), -2);
    }

    private static void ofGuessing() {
        Check.says(0, "Refused calls answer NONE, or false, and change nothing");
        refused("heard(0, 10)", x -> x.heard(0, 10), -1);
        refused("heard(1, 100)", x -> x.heard(1, 100), -1);
        refused("heard(2, 2)", x -> x.heard(2, 2), -1);
        refused("heard(3, 7)", x -> x.heard(3, 7), -1);
        refused("heard(4, 7)", x -> x.heard(4, 7), -1);
        refused("heard(5, 0)", x -> x.heard(5, 0), -1);
        refused("asks() of none who fits", RefusalsTest::poor, BellForWanted::asks, -2);
        refused("saw(10, 0, 0)", x -> x.saw(10, 0, 0), -1);
        refused("saw(0, 7, 0)", x -> x.saw(0, 7, 0), -1);
        refused("saw(0, 0, 2)", x -> x.saw(0, 0, 2), -1);
        refused("looks() of no law that fits", RefusalsTest::poor, BellForWanted::looks, -2);
    }

    private static void ofFullRows() {
        Check.says(0, "Refused calls answer NONE, or false, and change nothing");
        Supplier<BellForWanted> heardAll = () -> {
            BellForWanted x = rich();
            for (int i = 0; i < 10; i++) {
                x.heard(0, i % 4);
            }
            return x;
        };
        refused("heard() behind 12", heardAll, x -> x.heard(0, 9), -1);
        Supplier<BellForWanted> sawAll = () -> {
            BellForWanted x = rich();
            for (int i = 0; i < 8; i++) {
                x.saw(9, i % 7, 1);
            }
            return x;
        };
        refused("saw() behind 10", sawAll, x -> x.saw(9, 6, 0), -1);
    }

    private static void ofOdds() {
        Check.says(0, "Refused calls answer NONE, or false, and change nothing");
        refused("odds(4, 1)", x -> x.odds(4, 1), -1);
        refused("odds(0, -1)", x -> x.odds(0, -1), -1);
        refused("odds(0, 11)", x -> x.odds(0, 11), -1);
        refused("vigil(-1)", x -> x.vigil(-1), -1);
        refused("vigil(61)", x -> x.vigil(61), -1);
        refused("rests(-1)", x -> x.rests(-1), -1);
        refused("rests(21)", x -> x.rests(21), -1);
        refused("years(1, 0)", x -> x.years(1, 0), -1);
        refused("years(1, 61)", x -> x.years(1, 61), -1);
    }

    private static void ofKept() {
        Check.says(0, "Refused calls answer NONE, or false, and change nothing");
        refused("keep(-1)", x -> of(x.keep(-1)), 0);
        refused("keep(2)", x -> of(x.keep(2)), 0);
        refused("again(-1)", x -> of(x.again(-1)), 0);
        refused("again(2)", x -> of(x.again(2)), 0);
        refused("again(0) of nothing kept", RefusalsTest::poor, x -> of(x.again(0)), 0);
        refused("again(0) behind wants()", () -> {
            BellForWanted x = rich();
            Check.wants(x, "0d");
            x.wishes(1, 2);
            return x;
        }, x -> of(x.again(0)), 0);
        refused("count(-1)", x -> x.count(-1), -1);
        refused("count(13)", x -> x.count(13), -1);
    }

    private static void ofExceptions() {
        Check.says(0, "Refused calls answer NONE, or false, and change nothing");
        refused("one(4, 0) throws", x -> of(Check.oneThrows(x, 4, 0)), 1);
        refused("one(-1, 0) throws", x -> of(Check.oneThrows(x, -1, 0)), 1);
        refused("one(0, 7) throws", x -> of(Check.oneThrows(x, 0, 7)), 1);
        refused("one(0, -1) throws", x -> of(Check.oneThrows(x, 0, -1)), 1);
        refused("row(4) throws", x -> of(Check.rowThrows(x, 4)), 1);
        refused("row(-1) throws", x -> of(Check.rowThrows(x, -1)), 1);
    }

    /** Both would be due: NONE it is. */
    private static void noneFirst() {
        Check.says(0, "NONE comes ahead of other answers below 0, if not said otherwise");
        refused("pills(0, 10), far above 9", x -> x.pills(0, 10), -1);
        refused("pills(4, 9) of none such", x -> x.pills(4, 9), -1);
        refused("learns(4, 0) of none such", x -> x.learns(4, 0), -1);
        refused("leaves(0) without PEOPLE", RefusalsTest::nobody, x -> x.leaves(0), -1);
        refused("busiest(0) without PEOPLE", RefusalsTest::nobody, x -> x.busiest(0), -1);
        refused("busiest(100) without PEOPLE", RefusalsTest::nobody, x -> x.busiest(100), -1);
        refused("when(0) without PEOPLE", RefusalsTest::nobody, x -> x.when(0), -1);
        refused("steps(0) without PEOPLE", RefusalsTest::nobody, x -> x.steps(0), -1);
        refused("worth(0) without PEOPLE", RefusalsTest::nobody, x -> x.worth(0), -1);
        refused("way(0, 0) without PEOPLE", RefusalsTest::nobody, x -> x.way(0, 0), -1);
        refused("sheet(4, -1, 1, 1)", x -> x.sheet(4, -1, 1, 1), -1);
        refused("sheet(3, 8, 1, 1)", x -> x.sheet(3, 8, 1, 1), -1);
    }

    /** A question asked twice answers the same, and leaves all as it is but the ROW. */
    private static void question(String call, ToIntFunction<BellForWanted> asks) {
        BellForWanted x = rich();
        BellForWanted y = rich();
        int first = asks.applyAsInt(x);
        long[] row = Check.rowOf(x);
        Check.due(call + " asked again", asks.applyAsInt(x), first);
        Check.row(call + " asked again", x, row);
        x.serves();
        y.serves();
        Check.same(call + " is a question", Check.all(x), Check.all(y));
    }

    private static void questionsOfWaking() {
        Check.says(0, "Questions change nothing. What is asked of MORNINGS to come is asked as if nothing were done");
        question("wakes()", BellForWanted::wakes);
        question("later(0, 99)", x -> x.later(0, 99));
        question("when(2)", x -> x.when(2));
        question("quiet()", BellForWanted::quiet);
        question("runs(1, 99)", x -> x.runs(1, 99));
        question("each()", BellForWanted::each);
        question("busiest(99)", x -> x.busiest(99));
        question("odds(1, 5)", x -> x.odds(1, 5));
        question("years(7, 60)", x -> x.years(7, 60));
    }

    private static void questionsOfServing() {
        Check.says(0, "Questions change nothing");
        question("serves()", BellForWanted::serves);
        question("boot()", BellForWanted::boot);
        question("enough()", BellForWanted::enough);
        question("steps(3)", x -> x.steps(3));
        question("sleeps(1)", x -> x.sleeps(1));
        question("worth(1)", x -> x.worth(1));
        question("spares()", BellForWanted::spares);
        question("follows(0)", x -> x.follows(0));
        question("ring()", BellForWanted::ring);
        question("friends()", BellForWanted::friends);
        question("way(1, 3)", x -> x.way(1, 3));
    }

    private static void questionsOfGuessing() {
        Check.says(0, "Questions change nothing");
        question("fits()", BellForWanted::fits);
        question("asks()", BellForWanted::asks);
        question("laws()", BellForWanted::laws);
        question("looks()", BellForWanted::looks);
        question("vigil(60)", x -> x.vigil(60));
        question("rests(3)", x -> x.rests(3));
        question("count(3)", x -> x.count(3));
        question("one(1, 6)", x -> x.one(1, 6));
        question("row(3)", x -> x.count(11) > 3 ? (int) x.row(3) : 0);
    }

    private static void questionsOfLaw() {
        Check.says(0, "Questions change nothing");
        BellForWanted x = Check.text(rich(), "0");
        BellForWanted y = rich();
        Check.due("law() of 0", x.law(), -Integer.bitCount(y.wakes()));
        x.serves();
        y.serves();
        y.end(0);
        Check.same("law() is a question, but for THE TEXT", Check.all(x), Check.all(y));
    }

    /** Calls that tell a ROW tell it whole, whatever was told before. */
    private static void rowsOfQuestions() {
        Check.says(0, "ROW: numbers told last by a call that says so");
        BellForWanted x = rich();
        Check.due("serves()", x.count(11), 4);
        x.wakes();
        Check.due("wakes()", x.count(11), 2);
        x.fits();
        Check.due("fits()", x.count(11), 1);
        x.steps(1);
        Check.due("steps() of one who WAKES", x.count(11), 0);
        x.laws();
        Check.due("laws()", x.count(11), 3);
        x.vigil(3);
        Check.due("vigil(3), which is lost", x.count(11), 0);
        Check.law(x, "1");
        Check.due("law()", x.count(11), 6);
        x.mornings(0);
        Check.due("mornings(0)", x.count(11), 2);
        x.serves();
        Check.week(x, "");
        Check.due("week() of an empty text", x.count(11), 2);
    }

    private static void withoutRow(String call, ToIntFunction<BellForWanted> does) {
        BellForWanted x = rich();
        long[] row = Check.rowOf(x);
        Check.due(call + " is done", does.applyAsInt(x) >= 0, true);
        Check.row(call + " " + Arrays.toString(row), x, row);
    }

    private static void callsWithoutRow() {
        Check.says(0, "ROW: numbers told last by a call that says so");
        withoutRow("sign()", x -> x.sign(0));
        withoutRow("end()", x -> of(x.end(0)));
        withoutRow("people()", x -> Check.people(x, "50"));
        withoutRow("wants()", x -> Check.wants(x, "0d"));
        withoutRow("rule()", x -> Check.rule(x, "1"));
        withoutRow("one()", x -> x.one(0, 6));
        withoutRow("sheet()", x -> x.sheet(2, 4, 9, -1));
        withoutRow("wishes()", x -> x.wishes(0, 3));
        withoutRow("pills()", x -> x.pills(0, 1));
        withoutRow("learns()", x -> x.learns(0, 9));
        withoutRow("leaves()", x -> x.leaves(0));
        withoutRow("undo()", BellForWanted::undo);
        withoutRow("heard()", x -> x.heard(0, 9));
        withoutRow("forget()", BellForWanted::forget);
        withoutRow("saw()", x -> x.saw(0, 0, 0));
        withoutRow("denies()", BellForWanted::denies);
        withoutRow("keep()", x -> of(x.keep(0)));
        withoutRow("again()", x -> of(x.again(0)));
        withoutRow("count()", x -> x.count(0));
    }
}
