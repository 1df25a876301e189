/** Promises 19 to 23: wants, fewest exchanges, the plan, what one may come to, what to begin with. */
public final class WantsTest {
    private static final int NONE = -9, UNKNOWN = -1, LATE = -3;
    private static final Check check = new Check("WantsTest");

    private static void due(String call, long got, long want) {
        check.due(call, got, want);
    }

    public static void main(String[] args) {
        want();
        fewest();
        plan();
        mayComeTo();
        begin();
        check.end();
    }

    private static void want() {
        NeverHadBefore x = Check.fair("Pa000000P-000000");
        due("want(0, 5)", x.want(0, 5), NONE);
        due("want(0, 0)", x.want(0, 0), 5);
        due("want(0, NONE)", x.want(0, NONE), 0);
        due("want(0, NONE) again", x.want(0, NONE), NONE);
        due("want(1, 2)", x.want(1, 2), NONE);
        due("want(2, 0)", x.want(2, 0), UNKNOWN);
        due("want(-1, 0)", x.want(-1, 0), UNKNOWN);
        due("want(1, 6)", x.want(1, 6), UNKNOWN);
        due("want(1, -1)", x.want(1, -1), UNKNOWN);
        due("want(1, -8)", x.want(1, -8), UNKNOWN);
        due("want(2, NONE)", x.want(2, NONE), UNKNOWN);
        due("want(1, NONE): what is refused changed nothing", x.want(1, NONE), 2);
        x.want(0, 3);
        x.keep(0);
        x.again(0);
        due("about(4): wants stay when one goes on", x.about(4), 1);
    }

    private static void fewest() {
        NeverHadBefore x = Check.fair("Pa000000Pb000000Pc000000Pd000000");
        due("fewest() of no wants", x.fewest(), 0);
        x.want(0, 0);
        due("fewest(): it holds it", x.fewest(), 0);
        x.want(0, 1);
        due("fewest() of one", x.fewest(), 1);
        x.want(1, 1);
        due("fewest(): both want one thing", x.fewest(), NONE);
        x.want(1, 2);
        due("fewest(): 01, then 12", x.fewest(), 2);
        x.want(2, 3);
        due("fewest() of a turn of four", x.fewest(), 3);
        x.want(0, 4);
        due("fewest(): nobody has e", x.fewest(), NONE);
        Check.anew(x, "Pa000000bPb000000Pc000000");
        x.want(0, 1);
        due("fewest(): it had it", x.fewest(), NONE);
        x.want(0, NONE);
        x.want(2, 0);
        due("fewest(): a goes straight", x.fewest(), 1);
        x.want(1, 2);
        due("fewest(): a for b may not be", x.fewest(), NONE);
        Check.anew(x, "Pa000000P-000000");
        x.want(1, 0);
        due("fewest(): one that holds nothing", x.fewest(), NONE);
        // A row may end before no more may be, and what was held on the way does not count.
        Check.anew(x, "Pa000000Pb000000Pc000000");
        x.exchange(0, 1);
        x.want(0, 0);
        due("fewest(): it had that, and gave it away", x.fewest(), NONE);
    }

    private static void plan() {
        NeverHadBefore x = Check.fair("Pa000000Pb000000Pc000000Pd000000");
        due("plan(0) of no wants", x.plan(0), NONE);
        x.want(3, 0);
        due("plan(0)", x.plan(0), 3);
        due("plan(1)", x.plan(1), NONE);
        due("plan(-1)", x.plan(-1), NONE);
        due("plan(max)", x.plan(Integer.MAX_VALUE), NONE);
        due("plan(min)", x.plan(Integer.MIN_VALUE), NONE);
        x.want(2, 1);
        due("fewest()", x.fewest(), 2);
        due("plan(0): 03 comes before 12", x.plan(0), 3);
        due("plan(1)", x.plan(1), 12);
        x.want(0, 1);
        due("plan(0): no way", x.plan(0), NONE);
        Check.anew(x, "Pa000000Pb000000Pc000000");
        x.want(0, 2);
        x.want(1, 0);
        x.want(2, 1);
        // 01: b a c; 02: c a b. Of 01 02, 02 12 and 12 01 the first is told.
        due("plan(0) of a ring", x.plan(0), 1);
        due("plan(1) of a ring", x.plan(1), 2);
        due("plan(2) of a ring", x.plan(2), NONE);
        x.exchange(0, 1);
        due("plan(0) goes on from now", x.plan(0), 2);
        due("plan(1) goes on from now", x.plan(1), NONE);
        x.exchange(0, 2);
        due("plan(0) when all hold it", x.plan(0), NONE);
        due("about(3): plans are no acts", x.about(3), 2);
    }

    private static void mayComeTo() {
        NeverHadBefore x = Check.fair("Pa000000Pb000000aPc000000P-000000");
        // 02 and 12; a to 1 never; b to 0 only from 2.
        due("mayComeTo(0)", x.mayComeTo(0), Check.bits("abc"));
        due("mayComeTo(1): 12, or c when it came to 0", x.mayComeTo(1), Check.bits("bc"));
        due("mayComeTo(2)", x.mayComeTo(2), Check.bits("abc"));
        due("mayComeTo(3): it holds nothing", x.mayComeTo(3), 0);
        due("mayComeTo(4)", x.mayComeTo(4), UNKNOWN);
        due("mayComeTo(-1)", x.mayComeTo(-1), UNKNOWN);
        Check.anew(x, "Pa000000fPb000000fPf000000ab");
        due("mayComeTo(0): what it had it does not come to", x.mayComeTo(0), Check.bits("ab"));
        due("mayComeTo(2): only its own", x.mayComeTo(2), Check.bits("f"));
        due("holds(0) as before", x.holds(0), 0);
        due("had(1) as before", x.had(1), Check.bits("bf"));
        Check.anew(x, "Pa000000Pb000000Pc000000");
        for (int i = 0; i < 3; i++) {
            due("mayComeTo(" + i + ") of three sorts", x.mayComeTo(i), 7);
        }
        Check.anew(x, "Pd000000");
        due("mayComeTo(0) of one alone", x.mayComeTo(0), 8);
    }

    private static void begin() {
        NeverHadBefore x = Check.fair("Pa000000bcPb000000Pc000000abP-000000");
        due("begin(3): it holds nothing", x.begin(3), LATE);
        due("begin(4)", x.begin(4), UNKNOWN);
        due("begin(-1)", x.begin(-1), UNKNOWN);
        // With d (new to both others) 0 may come to d, then b or c: 01 leaves 0 b, 1 d, 2 c: 02 may not be, b is old to 2.
        // So d, b, c behind 02 and 01: d to 2 (had abc: new), then c for b: new to 1.
        due("begin(0)", x.begin(0), 3);
        due("holds(0) as before", x.holds(0), 0);
        due("had(0) as before", x.had(0), 7);
        due("had(1) as before", x.had(1), 2);
        Check.anew(x, "Pf000000abcde");
        due("begin(0) of one alone: the least", x.begin(0), 0);
        Check.anew(x, "Pf000000Pa000000");
        due("begin(0): a to one that holds a is none", x.begin(0), 1);
        Check.anew(x, "Pf000000Pf000000abcde");
        due("begin(0): none may be, the least", x.begin(0), 0);
        Check.anew(x, "Pa000000bcdefPf000000abcd");
        due("begin(0): only e is new to 1", x.begin(0), 4);
    }
}
