/** A test for each sentence that names an edge of sights, lists and slots (promises 29 to 34). */
public final class HiddenEdgesTest {
    private static final int NONE = -9, UNKNOWN = -1, LATE = -3, FULL = -4;
    private static final String FOUR = "Pa000000Pb000000Pc000000Pd000000";
    private static final int[] NO_SORTS =
        {6, -1, 7, -8, -9, -10, 9, 31, 32, 37, 64, 97, 256, -32, Integer.MAX_VALUE, Integer.MIN_VALUE};
    private static final int[] NO_SLOTS = {2, -1, 3, 4, -2, 32, 33, 64, 256, Integer.MAX_VALUE, Integer.MIN_VALUE};
    private static final Check check = new Check("HiddenEdgesTest");

    private static void due(String call, long got, long want) {
        check.due(call, got, want);
    }

    public static void main(String[] args) {
        sightsNoneAtFirst();
        sightsEight();
        sightUnknown();
        refusedItHadIt();
        tookItHadNot();
        thenItHas();
        lists();
        listsOfSorts();
        unsee();
        listedByAll();
        listedOfNoList();
        listedUnknown();
        sightsAreNoFair();
        slotsTwo();
        keepAnswers();
        againAsKept();
        againOfFour();
        againLate();
        againNoActs();
        keptOfWhat();
        keptGone();
        keptOfNobody();
        check.end();
    }

    /** Sights, two signs each: a sort, and + (it took it) or - (it refused it). */
    private static NeverHadBefore seen(String sights) {
        NeverHadBefore x = new NeverHadBefore();
        for (int i = 0; i + 1 < sights.length(); i += 2) {
            x.sight(sights.charAt(i) - 'a', sights.charAt(i + 1) == '+');
        }
        return x;
    }

    /** Of all six sorts, one behind the other. */
    private static void dueListed(String sights, int lists, int... listed) {
        NeverHadBefore x = seen(sights);
        for (int s = 0; s < 6; s++) {
            due("listed(" + s + ") by " + sights, x.listed(s), listed[s]);
        }
        due("lists() by " + sights, x.lists(), lists);
    }

    private static void sightsNoneAtFirst() {
        check.sentence("SIGHTS .. none at first");
        NeverHadBefore x = new NeverHadBefore();
        due("about(5)", x.about(5), 0);
        due("unsee()", x.unsee(), 0);
        due("lists()", x.lists(), 64);
        due("sight(0, true)", x.sight(0, true), 1);
    }

    private static void sightsEight() {
        check.sentence("SIGHTS: 8 at most .. FULL: 8");
        NeverHadBefore x = new NeverHadBefore();
        for (int i = 1; i <= 8; i++) {
            due("sight(5, false)", x.sight(5, false), i);
            due("about(5)", x.about(5), i);
        }
        due("lists()", x.lists(), 32);
        due("sight(5, false) of a ninth", x.sight(5, false), FULL);
        due("sight(0, true) of a ninth", x.sight(0, true), FULL);
        due("sight(6, true): what is told first", x.sight(6, true), UNKNOWN);
        due("about(5)", x.about(5), 8);
        due("lists(): the ninth does not count", x.lists(), 32);
        due("listed(0)", x.listed(0), 2);
        due("unsee()", x.unsee(), 8);
        due("sight(0, true) behind it", x.sight(0, true), 1);
        // The eighth counts.
        dueListed("a+a-b+b-c+c-d+d-", 4, 0, 0, 0, 0, 2, 2);
        dueListed("a-a-a-a-a-a-a-b-", 16, 1, 1, 2, 2, 2, 2);
        dueListed("a-a-a-a-a-a-a-a+", 0, NONE, NONE, NONE, NONE, NONE, NONE);
    }

    private static void sightUnknown() {
        check.sentence("A SIGHT: how many there are. UNKNOWN");
        NeverHadBefore x = new NeverHadBefore();
        for (int wrong : NO_SORTS) {
            due("sight(" + wrong + ", true)", x.sight(wrong, true), UNKNOWN);
            due("sight(" + wrong + ", false)", x.sight(wrong, false), UNKNOWN);
        }
        due("about(5)", x.about(5), 0);
        due("lists()", x.lists(), 64);
        due("sight(0, true)", x.sight(0, true), 1);
        due("sight(5, true)", x.sight(5, true), 2);
    }

    private static void refusedItHadIt() {
        check.sentence("it refused a SORT (it had HAD it then)");
        dueListed("a-", 32, 1, 2, 2, 2, 2, 2);
        dueListed("f-", 32, 2, 2, 2, 2, 2, 1);
        dueListed("a-a-", 32, 1, 2, 2, 2, 2, 2);
        dueListed("a-a+", 0, NONE, NONE, NONE, NONE, NONE, NONE);
        dueListed("a-f-a-a+", 0, NONE, NONE, NONE, NONE, NONE, NONE);
    }

    private static void tookItHadNot() {
        check.sentence("or took it (it had not ..)");
        dueListed("a+", 32, 0, 2, 2, 2, 2, 2);
        dueListed("f+", 32, 2, 2, 2, 2, 2, 0);
        dueListed("a+b+", 16, 0, 0, 2, 2, 2, 2);
    }

    private static void thenItHas() {
        check.sentence("then it has");
        dueListed("a+a-", 32, 0, 2, 2, 2, 2, 2);
        dueListed("a+a-a-", 32, 0, 2, 2, 2, 2, 2);
        dueListed("a+b-a-", 16, 0, 1, 2, 2, 2, 2);
        dueListed("a+a+", 0, NONE, NONE, NONE, NONE, NONE, NONE);
        dueListed("a+a-a+", 0, NONE, NONE, NONE, NONE, NONE, NONE);
        dueListed("a+b-c+a+", 0, NONE, NONE, NONE, NONE, NONE, NONE);
    }

    private static void lists() {
        check.sentence("LISTS: how many lists (sets of SORTS, the empty one, too) at first fit that");
        dueListed("", 64, 2, 2, 2, 2, 2, 2);
        dueListed("a+b+c+d+e+f+", 1, 0, 0, 0, 0, 0, 0);
        dueListed("a-b-c-d-e-f-", 1, 1, 1, 1, 1, 1, 1);
        dueListed("a+b+c+d+e+", 2, 0, 0, 0, 0, 0, 2);
        dueListed("a-b-c-d-e-", 2, 1, 1, 1, 1, 1, 2);
        dueListed("a+b-c+d-e+f-a-c-", 1, 0, 1, 0, 1, 0, 1);
    }

    private static void listsOfSorts() {
        check.sentence("LISTS: a SIGHT of one SORT tells nothing of another one");
        int due = 64;
        String sights = "";
        for (char sort = 'a'; sort <= 'f'; sort++) {
            sights += sort + "+";
            due /= 2;
            due("lists() by " + sights, seen(sights).lists(), due);
        }
    }

    private static void unsee() {
        check.sentence("There are no SIGHTS: how many there were");
        NeverHadBefore x = seen("a+a+");
        due("lists()", x.lists(), 0);
        due("unsee()", x.unsee(), 2);
        due("about(5)", x.about(5), 0);
        due("lists()", x.lists(), 64);
        for (int s = 0; s < 6; s++) {
            due("listed(" + s + ")", x.listed(s), 2);
        }
        due("unsee() again", x.unsee(), 0);
        due("unsee() of eight", seen("a+b+c+d+e+f+a-b-").unsee(), 8);
        due("sight(0, false): no SIGHT of before counts", x.sight(0, false), 1);
        due("listed(0)", x.listed(0), 1);
    }

    private static void listedByAll() {
        check.sentence("Of a SORT: 1 it had HAD it at first by all of them, 0 by none, 2 by some");
        dueListed("a+b-c+c-d-d-", 4, 0, 1, 0, 1, 2, 2);
        dueListed("f-e+", 16, 2, 2, 2, 2, 0, 1);
    }

    private static void listedOfNoList() {
        check.sentence("NONE: there is none");
        dueListed("c+c+", 0, NONE, NONE, NONE, NONE, NONE, NONE);
        dueListed("a-b+c-c+", 0, NONE, NONE, NONE, NONE, NONE, NONE);
        dueListed("f-f+", 0, NONE, NONE, NONE, NONE, NONE, NONE);
    }

    private static void listedUnknown() {
        check.sentence("listed: UNKNOWN");
        NeverHadBefore x = new NeverHadBefore();
        NeverHadBefore noList = seen("a+a+");
        for (int wrong : NO_SORTS) {
            due("listed(" + wrong + ")", x.listed(wrong), UNKNOWN);
            due("listed(" + wrong + ") when there is no list", noList.listed(wrong), UNKNOWN);
        }
        due("listed(0)", x.listed(0), 2);
        due("listed(5)", x.listed(5), 2);
    }

    private static void sightsAreNoFair() {
        check.sentence("SIGHTS of a stranger: it is none of THE PEOPLE");
        NeverHadBefore x = Check.fair(FOUR);
        x.sight(0, true);
        x.keep(0);
        x.sight(1, false);
        x.exchange(0, 1);
        x.undo();
        x.again(0);
        due("about(5)", x.about(5), 2);
        due("about(3)", x.about(3), 0);
        due("had(0)", x.had(0), 1);
        x.fair();
        due("about(5) of a new fair", x.about(5), 2);
        due("listed(0)", x.listed(0), 0);
        due("listed(1)", x.listed(1), 1);
        x.unsee();
        due("about(0)", x.about(0), 4);
    }

    private static void slotsTwo() {
        check.sentence("SLOTS 0 .. 1 .. UNKNOWN");
        NeverHadBefore x = Check.fair(FOUR);
        for (int wrong : NO_SLOTS) {
            due("keep(" + wrong + ")", x.keep(wrong), UNKNOWN);
            due("again(" + wrong + ")", x.again(wrong), UNKNOWN);
        }
        due("again(0): none was kept", x.again(0), LATE);
        due("again(1): none was kept", x.again(1), LATE);
        due("keep(0)", x.keep(0), 4);
        x.exchange(0, 1);
        due("keep(1)", x.keep(1), 4);
        due("again(0)", x.again(0), 4);
        due("holds(0) of slot 0", x.holds(0), 0);
        due("again(1)", x.again(1), 4);
        due("holds(0) of slot 1", x.holds(0), 1);
        for (int wrong : NO_SLOTS) {
            due("again(" + wrong + ") when both are kept", x.again(wrong), UNKNOWN);
        }
    }

    private static void keepAnswers() {
        check.sentence("They are kept: how many HOLD something");
        NeverHadBefore x = Check.fair("Pa000000bcdPb000000acdPc000000abdPd000000abc");
        for (int p = 0; p <= 4; p++) {
            due("keep(" + p % 2 + ")", x.keep(p % 2), 4 - p);
            if (p < 4) {
                due("sea(" + p + ")", x.sea(p), p);
            }
        }
        due("about(3): keeping ends no row", x.about(3), 4);
        due("keep(0) of who hold nothing", Check.fair("P-000000P-000000abc").keep(0), 0);
        due("undo()", x.undo(), 3);
        due("keep(0) over what was kept", x.keep(0), 1);
        x.undo();
        due("again(0): what was kept last", x.again(0), 1);
        due("again(1): as it was kept", x.again(1), 1);
    }

    private static void againAsKept() {
        check.sentence("They are as they were kept: how many HOLD something");
        NeverHadBefore x = Check.fair("Pa000000Pb000000Pc000000ab");
        x.keep(0);
        x.exchange(0, 1);
        x.sea(0);
        x.keep(1);
        x.sea(1);
        for (int time = 0; time < 2; time++) {
            due("again(1)", x.again(1), 2);
            due("holds(0)", x.holds(0), NONE);
            due("holds(1)", x.holds(1), 0);
            due("had(0)", x.had(0), 3);
            due("had(1)", x.had(1), 3);
            due("had(2)", x.had(2), 7);
            due("again(0)", x.again(0), 3);
            due("holds(0)", x.holds(0), 0);
            due("holds(1)", x.holds(1), 1);
            due("had(0)", x.had(0), 1);
            due("had(1)", x.had(1), 2);
            due("may(0, 1)", x.may(0, 1), 1);
            x.exchange(1, 0);
        }
    }

    private static void againOfFour() {
        check.sentence("They are as they were kept: of the most PEOPLE");
        NeverHadBefore x = Check.fair(FOUR);
        x.exchange(0, 1);
        x.exchange(2, 3);
        x.keep(0);
        x.exchange(0, 2);
        x.exchange(1, 3);
        x.keep(1);
        int[][] holds = {{1, 0, 3, 2}, {3, 2, 1, 0}};
        int[][] had = {{3, 3, 12, 12}, {11, 7, 14, 13}};
        for (int slot = 0; slot < 2; slot++) {
            due("again(" + slot + ")", x.again(slot), 4);
            for (int p = 0; p < 4; p++) {
                due("holds(" + p + ") of slot " + slot, x.holds(p), holds[slot][p]);
                due("had(" + p + ") of slot " + slot, x.had(p), had[slot][p]);
            }
        }
    }

    private static void againLate() {
        check.sentence("again: LATE: none were kept");
        NeverHadBefore x = Check.fair("Pa000000Pb000000");
        x.exchange(0, 1);
        due("again(0)", x.again(0), LATE);
        due("again(1)", x.again(1), LATE);
        due("about(3): refused", x.about(3), 1);
        x.keep(1);
        due("again(0): the other one was kept", x.again(0), LATE);
        due("about(3): refused", x.about(3), 1);
        due("undo()", x.undo(), 0);
        due("new object: again(0)", new NeverHadBefore().again(0), LATE);
        due("new object: again(1)", new NeverHadBefore().again(1), LATE);
    }

    private static void againNoActs() {
        check.sentence("no ACTS when one goes on");
        NeverHadBefore x = Check.fair(FOUR);
        x.exchange(0, 1);
        x.keep(0);
        x.exchange(2, 3);
        due("about(3)", x.about(3), 2);
        due("again(0)", x.again(0), 4);
        due("about(3)", x.about(3), 0);
        due("undo()", x.undo(), LATE);
        due("holds(0): what was before is made still", x.holds(0), 1);
        x.exchange(2, 3);
        due("about(3) from there on", x.about(3), 1);
        due("undo()", x.undo(), 0);
        due("undo() of what was before", x.undo(), LATE);
        due("again(0) with no acts", x.again(0), 4);
        due("about(3)", x.about(3), 0);
    }

    private static void keptOfWhat() {
        check.sentence("SLOTS keep what PEOPLE HOLD and have HAD");
        NeverHadBefore x = Check.fair("Pa111111Pb222222");
        x.want(0, 1);
        x.sight(0, true);
        x.keep(0);
        x.value(0, 0, 9);
        x.want(0, 5);
        x.want(1, 4);
        x.sight(1, true);
        x.write(3, 0);
        x.exchange(0, 1);
        x.again(0);
        due("worth(0, 0)", x.worth(0, 0), 9);
        due("about(6)", x.about(6), 11);
        due("about(4)", x.about(4), 2);
        due("want(0, 0)", x.want(0, 0), 5);
        due("about(5)", x.about(5), 2);
        due("about(7)", x.about(7), 19);
        due("holds(0)", x.holds(0), 0);
        due("had(0)", x.had(0), 1);
    }

    private static void keptGone() {
        check.sentence("what was kept is gone");
        NeverHadBefore x = Check.fair("Pa000000Pb000000");
        x.keep(0);
        x.keep(1);
        due("fair()", x.fair(), 2);
        due("again(0)", x.again(0), LATE);
        due("again(1)", x.again(1), LATE);
        due("keep(1)", x.keep(1), 2);
        due("again(1)", x.again(1), 2);
        x.write(1, 0);
        due("fair() of a fault", x.fair(), LATE);
        due("again(1) behind a fault", x.again(1), 2);
        x.wipe();
        due("again(1) behind wipe", x.again(1), 2);
        due("fair() of nobody", x.fair(), 0);
        due("again(1) behind that", x.again(1), LATE);
    }

    private static void keptOfNobody() {
        check.sentence("keep: how many HOLD something: of nobody, none");
        NeverHadBefore x = new NeverHadBefore();
        due("keep(0)", x.keep(0), 0);
        due("again(0)", x.again(0), 0);
        due("about(0)", x.about(0), 0);
        due("again(1)", x.again(1), LATE);
        Check.anew(x, FOUR);
        due("again(0) of another fair", x.again(0), LATE);
    }
}
