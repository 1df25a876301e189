/** A test for each sentence that names an edge of runs (promises 16 to 18). */
public final class RunsEdgesTest {
    private static final String FOUR = "Pa000000Pb000000Pc000000Pd000000";
    private static final Check check = new Check("RunsEdgesTest");

    private static void dueRuns(String what, NeverHadBefore x, int longest, int shortest, int runs) {
        check.due("longest() of " + what, x.longest(), longest);
        check.due("shortest() of " + what, x.shortest(), shortest);
        check.due("runs() of " + what, x.runs(), runs);
    }

    private static void dueRuns(String text, int longest, int shortest, int runs) {
        dueRuns(text, Check.fair(text), longest, shortest, runs);
    }

    public static void main(String[] args) {
        ofNoExchanges();
        asMayBeThen();
        tillNoneMayBe();
        nothingGoesToTheSea();
        longestAndShortest();
        howMany();
        fromNowOn();
        eachAskedFirst();
        noneIsMade();
        check.end();
    }

    private static void ofNoExchanges() {
        check.sentence("How many RUNS (of no EXCHANGES: one)");
        dueRuns("a new object", new NeverHadBefore(), 0, 0, 1);
        dueRuns("", 0, 0, 1);
        dueRuns("Pa000000", 0, 0, 1);
        dueRuns("P-000000", 0, 0, 1);
        dueRuns("P-000000P-000000P-000000P-000000", 0, 0, 1);
        dueRuns("Pa000000P-000000", 0, 0, 1);
        dueRuns("Pe000000Pe000000Pe000000Pe000000", 0, 0, 1);
        dueRuns("Pa000000bPb000000", 0, 0, 1);
        dueRuns("Pa000000Pb000000a", 0, 0, 1);
        dueRuns("Pa000000bcdPb000000acdPc000000abdPd000000abc", 0, 0, 1);
    }

    private static void asMayBeThen() {
        check.sentence("a row of EXCHANGES from now on, each as may be then");
        // 01 and 02 may be now, but either one takes what the other one needs.
        dueRuns("Pa000000Pb000000cPc000000b", 1, 1, 2);
        // Only 01 may be now, and only behind it 12: a for c.
        dueRuns("Pa000000cPb000000Pc000000b", 2, 2, 1);
    }

    private static void tillNoneMayBe() {
        check.sentence("till none may be");
        dueRuns("Pa000000Pb000000", 1, 1, 1);
        dueRuns("Pe000000Pf000000", 1, 1, 1);
        dueRuns("Pa000000cdPb000000cdPc000000abPd000000ab", 2, 2, 2);
    }

    private static void nothingGoesToTheSea() {
        check.sentence("nothing goes to THE SEA");
        NeverHadBefore x = Check.fair("Pa000000bcPb000000acPc000000ab");
        check.due("about(2)", x.about(2), 3);
        dueRuns("what is dead", x, 0, 0, 1);
        x.sea(0);
        dueRuns("what is dead, and a sea", x, 0, 0, 1);
        check.due("about(2) behind that", x.about(2), 2);
    }

    private static void longestAndShortest() {
        check.sentence("the LONGEST, the SHORTEST");
        // 02 23, or 12 alone.
        dueRuns("Pa000000bdPb000000adPc000000Pd000000bc", 2, 1, 2);
        // The same people by other numbers: 01 alone, or 12 13.
        dueRuns("Pb000000adPc000000Pa000000bdPd000000bc", 2, 1, 2);
        dueRuns(FOUR, 6, 5, 144);
        dueRuns("Pf000000Pe000000Pd000000Pc000000", 6, 5, 144);
    }

    private static void howMany() {
        check.sentence("how many RUNS there are: rows in another order are others");
        // 01 and 23, in either order.
        dueRuns("Pa000000cdPb000000cdPc000000abPd000000ab", 2, 2, 2);
        // One of a with one of b, then the other two.
        dueRuns("Pa000000Pb000000Pa000000Pb000000", 2, 2, 4);
        dueRuns("Pa000000Pb000000Pc000000", 2, 2, 6);
    }

    private static void fromNowOn() {
        check.sentence("from now on");
        NeverHadBefore x = Check.fair("Pa000000Pb000000Pc000000");
        dueRuns("three", x, 2, 2, 6);
        x.exchange(0, 1);
        dueRuns("three behind one", x, 1, 1, 2);
        x.exchange(1, 2);
        dueRuns("three behind two", x, 0, 0, 1);
        x.undo();
        dueRuns("three, one undone", x, 1, 1, 2);
        x.undo();
        dueRuns("three, all undone", x, 2, 2, 6);
        Check.anew(x, "Pa000000Pb000000");
        dueRuns("two", x, 1, 1, 1);
        Check.anew(x, "");
        dueRuns("nobody again", x, 0, 0, 1);
        Check.anew(x, FOUR);
        dueRuns("four", x, 6, 5, 144);
    }

    private static void eachAskedFirst() {
        check.sentence("The LONGEST RUN. The SHORTEST. How many RUNS: each for itself");
        check.due("longest() first", Check.fair(FOUR).longest(), 6);
        check.due("shortest() first", Check.fair(FOUR).shortest(), 5);
        check.due("runs() first", Check.fair(FOUR).runs(), 144);
        NeverHadBefore x = Check.fair(FOUR);
        x.longest();
        x.exchange(0, 1);
        check.due("longest() behind one", x.longest(), 5);
        Check.anew(x, "Pa000000Pb000000");
        check.due("shortest() of another fair", x.shortest(), 1);
        Check.anew(x, "");
        check.due("runs() of nobody", x.runs(), 1);
    }

    private static void noneIsMade() {
        check.sentence("what is told of RUNS makes no EXCHANGE");
        NeverHadBefore x = Check.fair(FOUR);
        x.exchange(2, 3);
        dueRuns("four behind one", x, 5, 4, 24);
        int[] holds = {0, 1, 3, 2};
        int[] had = {1, 2, 12, 12};
        for (int p = 0; p < 4; p++) {
            check.due("holds(" + p + ")", x.holds(p), holds[p]);
            check.due("had(" + p + ")", x.had(p), had[p]);
        }
        check.due("about(3)", x.about(3), 1);
    }
}
