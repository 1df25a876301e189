/** A test for each sentence that names an edge of wants, plans, reach and beginnings (promises 19 to 23). */
public final class WantsEdgesTest {
    private static final int NONE = -9, UNKNOWN = -1, LATE = -3;
    private static final String THREE = "Pa000000Pb000000Pc000000";
    private static final String FOUR = "Pa000000Pb000000Pc000000Pd000000";
    private static final int[] NO_PERSONS =
        {4, -1, 5, 10, 32, 64, 256, -4, -32, -9, Integer.MAX_VALUE, Integer.MIN_VALUE};
    private static final int[] NO_SORTS =
        {6, -1, 7, -8, -10, 9, 31, 32, 37, 64, 97, 256, -32, Integer.MAX_VALUE, Integer.MIN_VALUE};
    private static final Check check = new Check("WantsEdgesTest");

    private static void due(String call, long got, long want) {
        check.due(call, got, want);
    }

    /** Wants of all, a sign for each: a sort, or - for none. */
    private static NeverHadBefore wanting(String text, String wants) {
        NeverHadBefore x = Check.fair(text);
        for (int p = 0; p < wants.length(); p++) {
            x.want(p, wants.charAt(p) == '-' ? NONE : wants.charAt(p) - 'a');
        }
        return x;
    }

    private static void duePlan(String text, String wants, int... plan) {
        NeverHadBefore x = wanting(text, wants);
        for (int i = 0; i < plan.length; i++) {
            due("plan(" + i + ") for " + wants, x.plan(i), plan[i]);
        }
        due("plan(" + plan.length + ") for " + wants, x.plan(plan.length), NONE);
        due("plan(-1) for " + wants, x.plan(-1), NONE);
        due("fewest() for " + wants, x.fewest(), plan.length);
    }

    private static void dueNoWay(String text, String wants) {
        NeverHadBefore x = wanting(text, wants);
        due("fewest() for " + wants + " of " + text, x.fewest(), NONE);
        due("plan(0) for " + wants + " of " + text, x.plan(0), NONE);
        due("plan(1) for " + wants + " of " + text, x.plan(1), NONE);
        due("plan(-9) for " + wants + " of " + text, x.plan(-9), NONE);
        due("plan(-10) for " + wants + " of " + text, x.plan(-10), NONE);
    }

    public static void main(String[] args) {
        noneAtFirst();
        whenMadeAnew();
        want();
        wantRefused();
        fewestOfNoWants();
        fewestOneBehindTheOther();
        fewestAllThatWant();
        fewestNone();
        fewestFromNowOn();
        planFirstOfLikeOnes();
        planPlaces();
        comesToNow();
        comesToBehindRows();
        comesToUnknown();
        beginsAlone();
        beginsOthersAsTheyAre();
        beginsInstead();
        beginsWithTheLeast();
        beginRefused();
        noneIsMade();
        check.end();
    }

    private static void noneAtFirst() {
        check.sentence("WANTS: none at first");
        NeverHadBefore x = Check.fair(FOUR);
        due("about(4)", x.about(4), 0);
        for (int p = 0; p < 4; p++) {
            due("want(" + p + ", 0)", x.want(p, 0), NONE);
        }
        due("about(4)", x.about(4), 4);
    }

    private static void whenMadeAnew() {
        check.sentence("WANTS: none .. when THE FAIR is made anew");
        NeverHadBefore x = wanting(FOUR, "bcda");
        due("about(4)", x.about(4), 4);
        x.fair();
        due("about(4) anew", x.about(4), 0);
        due("fewest() anew", x.fewest(), 0);
        for (int p = 0; p < 4; p++) {
            due("want(" + p + ", NONE)", x.want(p, NONE), NONE);
        }
        x.want(3, 3);
        Check.anew(x, THREE);
        Check.anew(x, FOUR);
        due("want(3, NONE) of another one", x.want(3, NONE), NONE);
    }

    private static void want() {
        check.sentence("A PERSON wants a SORT (NONE: none): which it wanted; NONE");
        NeverHadBefore x = Check.fair("Pa000000P-000000");
        int was = NONE;
        for (int s = 0; s < 6; s++) {
            due("want(1, " + s + ")", x.want(1, s), was);
            due("about(4)", x.about(4), 1);
            was = s;
        }
        due("want(1, 5) as before", x.want(1, 5), 5);
        due("want(0, 0)", x.want(0, 0), NONE);
        due("about(4)", x.about(4), 2);
        due("want(1, NONE)", x.want(1, NONE), 5);
        due("want(1, NONE) again", x.want(1, NONE), NONE);
        due("about(4)", x.about(4), 1);
        due("want(0, NONE)", x.want(0, NONE), 0);
        due("about(4)", x.about(4), 0);
    }

    private static void wantRefused() {
        check.sentence("want: UNKNOWN");
        NeverHadBefore x = wanting(FOUR, "bbbb");
        for (int wrong : NO_PERSONS) {
            due("want(" + wrong + ", 0)", x.want(wrong, 0), UNKNOWN);
            due("want(" + wrong + ", NONE)", x.want(wrong, NONE), UNKNOWN);
            due("want(" + wrong + ", 6)", x.want(wrong, 6), UNKNOWN);
        }
        for (int wrong : NO_SORTS) {
            due("want(0, " + wrong + ")", x.want(0, wrong), UNKNOWN);
            due("want(3, " + wrong + ")", x.want(3, wrong), UNKNOWN);
        }
        for (int p = 0; p < 4; p++) {
            due("want(" + p + ", NONE): as before", x.want(p, NONE), 1);
        }
    }

    private static void fewestOfNoWants() {
        check.sentence("FEWEST: .. all that want one HOLD it: of no WANTS, none");
        duePlan("", "");
        duePlan("P-000000", "-");
        duePlan(FOUR, "----");
        duePlan(FOUR, "abcd");
        duePlan(FOUR, "a--d");
    }

    private static void fewestOneBehindTheOther() {
        check.sentence("by how few EXCHANGES, one behind the other");
        duePlan(FOUR, "b---", 1);
        duePlan(FOUR, "--dc", 23);
        duePlan(FOUR, "-a--", 1);
        // 2 has had a: what 0 gives away can go there by no way, but b comes to 0 by 1.
        duePlan("Pa000000bPb000000Pc000000a", "c---", 12, 1);
        duePlan("Pa000000bPb000000Pc000000a", "-a--", 12, 1);
        // Only for c does 3 give d, and 2 gives c for no a. (01 23 02 is as good, but not the first.)
        duePlan("Pa000000Pb000000Pc000000aPd000000ab", "d---", 1, 2, 3);
        duePlan(THREE, "bca", 1, 12);
        duePlan(FOUR, "bcda", 1, 12, 23);
    }

    private static void fewestAllThatWant() {
        check.sentence("all that want one HOLD it, at once");
        // One b, and two that want it: each may hold it, not both.
        dueNoWay(THREE, "b-b");
        dueNoWay(THREE, "bb-");
        // What one holds already it must hold in the end, too.
        duePlan(FOUR, "bacd", 1);
        dueNoWay(THREE, "baa");
        dueNoWay(THREE, "cbb");
        duePlan("Pa000000Pb000000Pb000000", "b-b", 1);
    }

    private static void fewestNone() {
        check.sentence("FEWEST; NONE");
        dueNoWay(THREE, "e--");
        dueNoWay(FOUR, "---e");
        dueNoWay("Pa000000Pb000000a", "b-");
        dueNoWay("Pa000000bPb000000", "-a");
        dueNoWay("Pa000000bPb000000Pc000000", "b--");
        dueNoWay("Pa000000P-000000", "-a");
        dueNoWay("P-000000", "a");
        dueNoWay("Pa000000", "f");
    }

    private static void fewestFromNowOn() {
        check.sentence("FEWEST, from what PEOPLE HOLD now");
        NeverHadBefore x = wanting(THREE, "bca");
        due("fewest()", x.fewest(), 2);
        x.exchange(0, 1);
        due("fewest() behind one", x.fewest(), 1);
        due("plan(0) behind one", x.plan(0), 12);
        x.exchange(0, 2);
        due("fewest() behind a wrong one", x.fewest(), NONE);
        due("plan(0) behind a wrong one", x.plan(0), NONE);
        x.undo();
        due("fewest() when undone", x.fewest(), 1);
        x.exchange(2, 1);
        due("fewest() when met", x.fewest(), 0);
        due("plan(0) when met", x.plan(0), NONE);
        x.want(0, 0);
        due("fewest(): 0 gave a away", x.fewest(), NONE);
    }

    private static void planFirstOfLikeOnes() {
        check.sentence("of like ones the first by its first EXCHANGE, its second, ..");
        duePlan(FOUR, "badc", 1, 23);
        duePlan(FOUR, "dcba", 3, 12);
        duePlan(FOUR, "cdab", 2, 13);
        // By 01 02, 02 12 or 12 01.
        duePlan(THREE, "cab", 1, 2);
        // Behind 01 there are 12 23, 13 12 and 23 13.
        duePlan(FOUR, "bcda", 1, 12, 23);
        duePlan(FOUR, "cdba", 1, 2, 13);
        duePlan(FOUR, "dcab", 1, 3, 12);
        // a comes to 1 straight or by others: straight is by fewest.
        duePlan(FOUR, "---a", 3);
        // Two hold b: the one of 1 is the first.
        duePlan("Pa000000Pb000000Pb000000", "b--", 1);
        duePlan("Pa000000Pb000000aPb000000", "b--", 2);
    }

    private static void planPlaces() {
        check.sentence("The i-th EXCHANGE (from 0) of THE PLAN; NONE: there is none such");
        NeverHadBefore x = wanting(FOUR, "bcda");
        int[] plan = {1, 12, 23};
        for (int i = 0; i < 3; i++) {
            due("plan(" + i + "), each asked for itself", wanting(FOUR, "bcda").plan(i), plan[i]);
        }
        int[] noPlaces = {3, 4, 5, 6, 11, 12, 13, 16, 32, 256, -1, -2, -9, Integer.MAX_VALUE, Integer.MIN_VALUE};
        for (int i : noPlaces) {
            due("plan(" + i + ")", x.plan(i), NONE);
        }
        x.want(2, NONE);
        x.want(3, NONE);
        due("plan(2) of a shorter one", x.plan(2), NONE);
        due("plan(1) of a shorter one", x.plan(1), 12);
        due("plan(0) of nobody", new NeverHadBefore().plan(0), NONE);
    }

    private static void comesToNow() {
        check.sentence("MAY COME TO: SORTS that a PERSON HOLDS now");
        due("mayComeTo(0) of one alone", Check.fair("Pa000000").mayComeTo(0), 1);
        due("mayComeTo(0) of one alone", Check.fair("Pf000000abcde").mayComeTo(0), 32);
        due("mayComeTo(0) of nothing", Check.fair("P-000000").mayComeTo(0), 0);
        due("mayComeTo(0) of nothing, that had all", Check.fair("P-000000abcdefPa000000").mayComeTo(0), 0);
        due("mayComeTo(0) of two of a sort", Check.fair("Pc000000Pc000000").mayComeTo(0), 4);
        due("mayComeTo(1): a is old to it", Check.fair("Pa000000Pb000000a").mayComeTo(1), 2);
        NeverHadBefore x = Check.fair("Pa000000Pb000000");
        x.exchange(0, 1);
        due("mayComeTo(0): what it gave away it does not come to", x.mayComeTo(0), 2);
    }

    private static void comesToBehindRows() {
        check.sentence("or behind some row of EXCHANGES");
        due("mayComeTo(0) by one", Check.fair("Pa000000Pf000000").mayComeTo(0), Check.bits("af"));
        // 12 must be made first: 1 holds c then, which is new to 0.
        String text = "Pa000000bPb000000Pc000000a";
        due("mayComeTo(0) by others", Check.fair(text).mayComeTo(0), Check.bits("ac"));
        due("mayComeTo(1) by others", Check.fair(text).mayComeTo(1), Check.bits("abc"));
        due("mayComeTo(2) by others", Check.fair(text).mayComeTo(2), Check.bits("bc"));
        for (int p = 0; p < 4; p++) {
            due("mayComeTo(" + p + ") of four", Check.fair(FOUR).mayComeTo(p), 15);
        }
        // Only for c does 3 give d, and 2 gives c for no a: so b, c, d, one behind the other.
        due("mayComeTo(0) by three", Check.fair("Pa000000Pb000000Pc000000aPd000000ab").mayComeTo(0), 15);
        // Of all that 0 may come to 1 has much at once, but not all.
        due("mayComeTo(1), more than 0", Check.fair("Pb000000acPb000000Pa000000").mayComeTo(1), Check.bits("ab"));
        due("mayComeTo(0) by either of two", Check.fair("Pa000000Pb000000Pb000000").mayComeTo(0), Check.bits("ab"));
        NeverHadBefore x = Check.fair(text);
        x.exchange(1, 2);
        due("mayComeTo(2): b stays", x.mayComeTo(2), Check.bits("b"));
        x.undo();
        due("mayComeTo(2) when undone", x.mayComeTo(2), Check.bits("bc"));
    }

    private static void comesToUnknown() {
        check.sentence("mayComeTo: UNKNOWN");
        NeverHadBefore x = Check.fair(FOUR);
        for (int wrong : NO_PERSONS) {
            due("mayComeTo(" + wrong + ")", x.mayComeTo(wrong), UNKNOWN);
        }
        due("mayComeTo(3) of three", Check.fair(THREE).mayComeTo(3), UNKNOWN);
    }

    private static void beginsAlone() {
        check.sentence("if a PERSON HELD it instead, and had HAD that alone");
        // It had c, and with b comes to c all the same: that list is set aside.
        due("begin(0): it had c", Check.fair("Pb000000acdefPc000000a").begin(0), 1);
        due("begin(0): it had all", Check.fair("Pa000000bcdefPf000000abcd").begin(0), 4);
    }

    private static void beginsOthersAsTheyAre() {
        check.sentence("others as they are");
        // What the other one had hinders: b is the first that is new to it.
        due("begin(0)", Check.fair("Pf000000Pc000000a").begin(0), 1);
        due("begin(0)", Check.fair("Pa000000Pa000000bcde").begin(0), 5);
        due("begin(0)", Check.fair("Pa000000Pf000000abcd").begin(0), 4);
        due("begin(1)", Check.fair("Pe000000abcPa000000").begin(1), 3);
        NeverHadBefore x = Check.fair("Pa000000Pb000000Pf000000");
        x.exchange(0, 1);
        // a and b are old to both others now: c is the first that they may take.
        due("begin(2) behind an exchange", x.begin(2), 2);
    }

    private static void beginsInstead() {
        check.sentence("it HELD it instead: what it HOLDS is not there then");
        due("begin(0): a is as good as d", Check.fair("Pd000000Pb000000").begin(0), 0);
        due("begin(0): what it holds is best", Check.fair("Pa000000Pb000000").begin(0), 0);
        due("begin(1): what it holds is best", Check.fair("Pa000000Pb000000").begin(1), 1);
        due("begin(2)", Check.fair("Pa000000bPb000000aPc000000").begin(2), 2);
    }

    private static void beginsWithTheLeast() {
        check.sentence("would let it come to most SORTS; of like ones the least");
        due("begin(0) of one alone", Check.fair("Pf000000").begin(0), 0);
        due("begin(0): none comes to more", Check.fair("Pc000000Pd000000abcef").begin(0), 0);
        due("begin(0): old to both others", Check.fair("Pa000000Pb000000acdefPc000000abdef").begin(0), 0);
        due("begin(0): all but a are alike", Check.fair("Pf000000Pa000000").begin(0), 1);
        due("begin(0): all but b are alike", Check.fair("Pf000000Pb000000").begin(0), 0);
        // With a or b one comes to one other thing, with c .. f to both.
        due("begin(0): c is the first that comes to three", Check.fair("Pa000000Pa000000Pb000000").begin(0), 2);
    }

    private static void beginRefused() {
        check.sentence("begin: UNKNOWN; LATE: it HOLDS nothing");
        NeverHadBefore x = Check.fair("P-000000P-000000abcdefPa000000bPb000000a");
        due("begin(0)", x.begin(0), LATE);
        due("begin(1)", x.begin(1), LATE);
        due("begin(2)", x.begin(2), 2);
        for (int wrong : NO_PERSONS) {
            due("begin(" + wrong + ")", x.begin(wrong), UNKNOWN);
        }
        due("begin(3) of three", Check.fair(THREE).begin(3), UNKNOWN);
        Check.anew(x, "Pa000000");
        x.sea(0);
        due("begin(0) behind a sea", x.begin(0), LATE);
    }

    private static void noneIsMade() {
        check.sentence("plans, reach and beginnings make no EXCHANGE");
        NeverHadBefore x = wanting(FOUR, "bcda");
        x.fewest();
        x.plan(2);
        for (int p = 0; p < 4; p++) {
            x.mayComeTo(p);
            x.begin(p);
        }
        for (int p = 0; p < 4; p++) {
            due("holds(" + p + ")", x.holds(p), p);
            due("had(" + p + ")", x.had(p), 1 << p);
        }
        due("about(3)", x.about(3), 0);
        due("about(4)", x.about(4), 4);
    }
}
