import java.lang.reflect.Field;
import java.lang.reflect.Method;

/** A test for each sentence that names an edge of exchanges, dead things and acts (promises 11 to 15). */
public final class ActsEdgesTest {
    private static final int NONE = -9, UNKNOWN = -1, BAD = -2, LATE = -3;
    private static final String FOUR = "Pa000000Pb000000Pc000000Pd000000";
    private static final int[] NO_PERSONS =
        {4, -1, 5, 10, 32, 64, 256, -4, -32, -9, Integer.MAX_VALUE, Integer.MIN_VALUE};
    private static final Check check = new Check("ActsEdgesTest");

    private static void due(String call, long got, long want) {
        check.due(call, got, want);
    }

    public static void main(String[] args) throws Exception {
        bothHold();
        newToBoth();
        eachTakes();
        toldByTheLesser();
        deadToNobodyElse();
        deadToWhoHoldsNothing();
        deadOfOneAlone();
        deadBehindExchanges();
        toTheSea();
        mostActs();
        rowOfSixteen();
        lastUndone();
        may();
        exchangeGain();
        exchangeRefused();
        sea();
        undo();
        judgeCount();
        judgeTold();
        judgeFigures();
        judgeOneBehindTheOther();
        judgeFromNowOn();
        check.end();
    }

    private static void dueMay(String text, int may) {
        NeverHadBefore x = Check.fair(text);
        due("may(0, 1) of " + text, x.may(0, 1), may);
        due("may(1, 0) of " + text, x.may(1, 0), may);
        due("exchange(1, 0) of " + text, x.exchange(1, 0), may == 1 ? 100 : LATE);
        due("about(3) of " + text, x.about(3), may);
    }

    private static void bothHold() {
        check.sentence("An EXCHANGE of two PEOPLE that both HOLD something");
        dueMay("Pa000000Pb000000", 1);
        dueMay("P-000000Pb000000", 0);
        dueMay("Pa000000P-000000", 0);
        dueMay("P-000000P-000000", 0);
    }

    private static void newToBoth() {
        check.sentence("which must be new to the other one (it has never HAD it), of both");
        dueMay("Pa000000bPb000000", 0);
        dueMay("Pa000000Pb000000a", 0);
        dueMay("Pa000000bPb000000a", 0);
        dueMay("Pa000000Pa000000", 0);
        dueMay("Pa000000cdefPb000000cdef", 1);
        dueMay("Pf000000abcdPe000000abcd", 1);
        NeverHadBefore x = Check.fair("Pa000000Pb000000Pc000000");
        x.exchange(0, 1);
        due("may(0, 1): they had both", x.may(0, 1), 0);
        x.exchange(0, 2);
        due("may(0, 1): 0 gave a away", x.may(0, 1), 0);
        due("may(1, 2): a for b, 1 gave b away", x.may(1, 2), 0);
    }

    private static void eachTakes() {
        check.sentence("each takes what the other one HELD; then it has HAD that, too");
        NeverHadBefore x = Check.fair("Pf000000aPb000000cP-000000Pd000000");
        due("exchange(0, 1)", x.exchange(0, 1), 100);
        due("holds(0)", x.holds(0), 1);
        due("holds(1)", x.holds(1), 5);
        due("had(0)", x.had(0), Check.bits("abf"));
        due("had(1)", x.had(1), Check.bits("bcf"));
        due("holds(2)", x.holds(2), NONE);
        due("had(2)", x.had(2), 0);
        due("holds(3)", x.holds(3), 3);
        due("had(3)", x.had(3), Check.bits("d"));
    }

    private static void toldByTheLesser() {
        check.sentence("It is told as 10 times the lesser PERSON, and the other one");
        for (int p = 0; p < 4; p++) {
            for (int q = p + 1; q < 4; q++) {
                NeverHadBefore x = Check.fair(FOUR);
                x.want(q, p);
                x.want(p, q);
                due("plan(0) of " + p + " and " + q, x.plan(0), 10 * p + q);
                due("judge(1, " + (10 * p + q) + ")", x.judge(1, 10 * p + q), NONE);
            }
        }
    }

    private static void deadToNobodyElse() {
        check.sentence("What one HOLDS is DEAD, if it is new to nobody else");
        due("about(2) of two of a sort", Check.fair("Pa000000Pa000000").about(2), 2);
        due("about(2) of all of a sort", Check.fair("Pf000000Pf000000Pf000000Pf000000").about(2), 4);
        due("about(2) of none", Check.fair(FOUR).about(2), 0);
        String[] oneLacks = {"Pb000000Pc000000aPd000000a", "Pb000000aPc000000Pd000000a", "Pb000000aPc000000aPd000000"};
        for (String others : oneLacks) {
            NeverHadBefore x = Check.fair("Pa000000" + others);
            due("about(2) beside " + others, x.about(2), 0);
            due("sea(0) beside " + others, x.sea(0), LATE);
        }
        NeverHadBefore x = Check.fair("Pa000000Pb000000aPc000000aPd000000a");
        due("about(2)", x.about(2), 1);
        due("sea(1)", x.sea(1), LATE);
        due("sea(3)", x.sea(3), LATE);
        due("sea(0)", x.sea(0), 0);
    }

    private static void deadToWhoHoldsNothing() {
        check.sentence("who HOLDS nothing counts, too");
        NeverHadBefore x = Check.fair("Pa000000P-000000");
        due("about(2): new to 1", x.about(2), 0);
        due("sea(0): new to 1", x.sea(0), LATE);
        Check.anew(x, "Pa000000P-000000a");
        due("about(2): 1 had it", x.about(2), 1);
        due("sea(0): 1 had it", x.sea(0), 0);
        due("about(2): nothing is not dead", x.about(2), 0);
        Check.anew(x, "P-000000bcdefPa000000P-000000a");
        due("sea(1): new to 0", x.sea(1), LATE);
    }

    private static void deadOfOneAlone() {
        check.sentence("DEAD .. new to nobody else: there is nobody else");
        NeverHadBefore x = Check.fair("Pe000000");
        due("about(2)", x.about(2), 1);
        due("sea(0)", x.sea(0), 4);
        due("about(1)", x.about(1), 0);
        due("had(0)", x.had(0), 16);
    }

    private static void deadBehindExchanges() {
        check.sentence("DEAD, by what was HAD meanwhile");
        NeverHadBefore x = Check.fair("Pa000000Pb000000");
        due("about(2)", x.about(2), 0);
        x.exchange(0, 1);
        due("about(2) behind the exchange", x.about(2), 2);
        x.undo();
        due("about(2) when undone", x.about(2), 0);
        Check.anew(x, "Pa000000cPb000000cPc000000b");
        due("about(2): c of 2", x.about(2), 1);
        x.exchange(0, 1);
        due("about(2): b too; a is new to 2", x.about(2), 2);
        due("sea(1)", x.sea(1), LATE);
        due("sea(0)", x.sea(0), 1);
    }

    private static void toTheSea() {
        check.sentence("it may go to THE SEA: one HOLDS nothing then");
        NeverHadBefore x = Check.fair("Pa900000bPb090000Pc000000ab");
        due("about(6)", x.about(6), 18);
        due("may(1, 2): b is old to 2", x.may(1, 2), 0);
        due("sea(1)", x.sea(1), 1);
        due("holds(1)", x.holds(1), NONE);
        due("had(1)", x.had(1), 2);
        due("about(1)", x.about(1), 2);
        due("about(6)", x.about(6), 9);
        due("sea(0): a is new to 1, that holds nothing", x.sea(0), LATE);
        due("may(1, 2)", x.may(1, 2), 0);
        due("exchange(2, 1)", x.exchange(2, 1), LATE);
        due("mayComeTo(1)", x.mayComeTo(1), 0);
        due("begin(1)", x.begin(1), LATE);
    }

    private static void mostActs() {
        check.sentence("ACTS are a row: the most that can be");
        // Each of the four comes to the three other things, by six exchanges; then all four are dead.
        NeverHadBefore x = Check.fair(FOUR);
        int[][] pairs = {{0, 1}, {2, 3}, {0, 2}, {1, 3}, {0, 1}, {2, 3}};
        int acts = 0;
        for (int[] pair : pairs) {
            due("exchange(" + pair[0] + ", " + pair[1] + ")", x.exchange(pair[0], pair[1]), 100);
            acts++;
            due("about(3)", x.about(3), acts);
        }
        due("longest()", x.longest(), 0);
        due("about(2)", x.about(2), 4);
        for (int p = 0; p < 4; p++) {
            due("sea(" + p + ")", x.sea(p), (p + 2) % 4);
            acts++;
            due("about(3)", x.about(3), acts);
        }
        for (int left = 9; left >= 0; left--) {
            due("undo()", x.undo(), left);
            due("about(3)", x.about(3), left);
        }
        due("undo() of none", x.undo(), LATE);
        for (int p = 0; p < 4; p++) {
            due("holds(" + p + ")", x.holds(p), p);
            due("had(" + p + ")", x.had(p), 1 << p);
        }
    }

    // No row of calls makes more than ten acts (see mostActs): so only from inside can the row be filled.
    private static void rowOfSixteen() throws Exception {
        check.sentence("16 at most; when it is full, the first one is forgotten");
        NeverHadBefore x = Check.fair("P-000000");
        Field field = NeverHadBefore.class.getDeclaredField("acts");
        field.setAccessible(true);
        Object acts = field.get(x);
        Method add = acts.getClass().getDeclaredMethod("addSea", int.class, int.class);
        add.setAccessible(true);
        for (int i = 1; i <= 16; i++) {
            add.invoke(acts, 0, i == 1 ? 5 : 0);
            due("about(3)", x.about(3), i);
        }
        for (int left = 15; left >= 0; left--) {
            due("undo() of 16", x.undo(), left);
        }
        due("holds(0): by the first of 16", x.holds(0), 5);
        for (int i = 1; i <= 18; i++) {
            add.invoke(acts, 0, i % 6);
            due("about(3)", x.about(3), Math.min(i, 16));
        }
        for (int left = 15; left >= 0; left--) {
            due("undo() of 18", x.undo(), left);
            due("holds(0)", x.holds(0), (left + 3) % 6);
        }
        due("undo(): the first two are forgotten", x.undo(), LATE);
    }

    private static void lastUndone() {
        check.sentence("the last one can be undone");
        NeverHadBefore x = Check.fair("Pa000000Pb000000Pc000000ab");
        x.exchange(0, 1);
        x.sea(1);
        x.sea(0);
        due("undo()", x.undo(), 2);
        due("holds(0)", x.holds(0), 1);
        due("holds(1)", x.holds(1), NONE);
        x.sea(0);
        due("about(3)", x.about(3), 3);
        due("undo() anew", x.undo(), 2);
        due("undo() of what was before", x.undo(), 1);
        due("holds(1)", x.holds(1), 0);
        due("had(1)", x.had(1), 3);
        due("undo() of the first", x.undo(), 0);
        due("holds(1)", x.holds(1), 1);
        due("had(1): a is new to it again", x.had(1), 2);
        due("had(0): b is new to it again", x.had(0), 1);
        due("may(0, 1)", x.may(0, 1), 1);
    }

    private static void may() {
        check.sentence("Whether an EXCHANGE may be: 1, 0. UNKNOWN; BAD: both are one");
        NeverHadBefore x = Check.fair("Pa000000Pb000000P-000000Pb000000");
        due("may(0, 1)", x.may(0, 1), 1);
        due("may(3, 0)", x.may(3, 0), 1);
        due("may(1, 3)", x.may(1, 3), 0);
        for (int p = 0; p < 4; p++) {
            due("may(" + p + ", " + p + ")", x.may(p, p), BAD);
            for (int wrong : NO_PERSONS) {
                due("may(" + p + ", " + wrong + ")", x.may(p, wrong), UNKNOWN);
                due("may(" + wrong + ", " + p + ")", x.may(wrong, p), UNKNOWN);
            }
        }
        for (int wrong : NO_PERSONS) {
            due("may of twice " + wrong, x.may(wrong, wrong), UNKNOWN);
        }
        due("about(3): asking is no act", x.about(3), 0);
    }

    private static void exchangeGain() {
        check.sentence("An EXCHANGE: by how much more all have, and 100");
        due("exchange(0, 1): least", Check.fair("Pa900000Pb090000").exchange(0, 1), 82);
        due("exchange(0, 1): most", Check.fair("Pa090000Pb900000").exchange(0, 1), 118);
        due("exchange(0, 1): as much", Check.fair("Pa580000Pb850000").exchange(0, 1), 106);
        due("exchange(0, 1): none", Check.fair("Pa550000Pb770000").exchange(0, 1), 100);
        due("exchange(0, 1): one more, one less", Check.fair("Pa450000Pb450000").exchange(0, 1), 100);
        due("exchange(0, 1): by one", Check.fair("Pa450000Pb440000").exchange(0, 1), 101);
        due("exchange(0, 1): by one less", Check.fair("Pa440000Pb450000").exchange(0, 1), 99);
        due("exchange(3, 2): others stay", Check.fair("Pa900000Pb090000Pc002300Pd009500").exchange(3, 2), 105);
        NeverHadBefore x = Check.fair("Pa000000Pb000000");
        x.value(0, 1, 7);
        due("exchange(0, 1) by a new value", x.exchange(0, 1), 107);
    }

    private static void exchangeRefused() {
        check.sentence("UNKNOWN; BAD: both are one; LATE: it may not be");
        NeverHadBefore x = Check.fair("Pa000000Pb000000aP-000000Pd000000");
        due("exchange(0, 1)", x.exchange(0, 1), LATE);
        due("exchange(0, 2)", x.exchange(0, 2), LATE);
        due("exchange(2, 3)", x.exchange(2, 3), LATE);
        for (int p = 0; p < 4; p++) {
            due("exchange(" + p + ", " + p + ")", x.exchange(p, p), BAD);
            for (int wrong : NO_PERSONS) {
                due("exchange(" + p + ", " + wrong + ")", x.exchange(p, wrong), UNKNOWN);
                due("exchange(" + wrong + ", " + p + ")", x.exchange(wrong, p), UNKNOWN);
            }
        }
        for (int wrong : NO_PERSONS) {
            due("exchange of twice " + wrong, x.exchange(wrong, wrong), UNKNOWN);
        }
        due("about(3): no acts", x.about(3), 0);
        due("exchange(0, 3) may be", x.exchange(0, 3), 100);
    }

    private static void sea() {
        check.sentence("which SORT it was. UNKNOWN; LATE: it HOLDS nothing, or that is not DEAD");
        for (int s = 0; s < 6; s++) {
            NeverHadBefore x = Check.fair("P" + (char) ('a' + s) + "000000");
            due("sea(0) of sort " + s, x.sea(0), s);
            due("sea(0) of nothing", x.sea(0), LATE);
            due("about(3)", x.about(3), 1);
        }
        NeverHadBefore x = Check.fair("Pa000000Pb000000aP-000000abPd000000ab");
        due("sea(0): dead", x.sea(0), 0);
        due("sea(1): b is new to 0", x.sea(1), LATE);
        due("sea(2): holds nothing", x.sea(2), LATE);
        for (int wrong : NO_PERSONS) {
            due("sea(" + wrong + ")", x.sea(wrong), UNKNOWN);
        }
        due("about(3)", x.about(3), 1);
    }

    private static void undo() {
        check.sentence("The last ACT is undone: how many are left. LATE: there is none");
        NeverHadBefore x = new NeverHadBefore();
        due("undo() of nobody", x.undo(), LATE);
        Check.anew(x, "Pa000000Pb000000");
        due("undo() of none", x.undo(), LATE);
        x.exchange(1, 0);
        x.sea(0);
        x.sea(1);
        due("undo() of three", x.undo(), 2);
        due("undo() of two", x.undo(), 1);
        due("undo() of one", x.undo(), 0);
        due("undo() of no more", x.undo(), LATE);
        due("holds(0)", x.holds(0), 0);
        x.exchange(0, 1);
        due("undo() once more", x.undo(), 0);
        x.exchange(0, 0);
        x.exchange(0, 5);
        due("undo() of what was refused", x.undo(), LATE);
        x.value(0, 0, 3);
        due("undo() of a value", x.undo(), LATE);
        due("worth(0, 0)", x.worth(0, 0), 3);
    }

    private static void judgeCount() {
        check.sentence("Of n EXCHANGES (1 .. 4) .. BAD: n");
        NeverHadBefore x = Check.fair(FOUR);
        for (int n : new int[] {0, 5, -1, 8, 16, -4, Integer.MAX_VALUE, Integer.MIN_VALUE}) {
            due("judge(" + n + ", 1)", x.judge(n, 1), BAD);
            due("judge(" + n + ", 0)", x.judge(n, 0), BAD);
        }
        due("judge(1, 01)", x.judge(1, 1), NONE);
        due("judge(2, 01 23)", x.judge(2, 123), NONE);
        due("judge(3, 01 23 02)", x.judge(3, 12302), NONE);
        due("judge(4, 01 23 02 13)", x.judge(4, 1230213), NONE);
    }

    private static void judgeTold() {
        check.sentence("BAD: told (0 or more, not more than 2 n figures)");
        NeverHadBefore x = Check.fair(FOUR);
        int over = 1;
        for (int n = 1; n <= 4; n++) {
            over *= 100;
            due("judge(" + n + ", 0)", x.judge(n, 0), 0);
            due("judge(" + n + ", " + (over - 1) + ")", x.judge(n, over - 1), 0);
            due("judge(" + n + ", " + over + ")", x.judge(n, over), BAD);
            due("judge(" + n + ", " + (over + 1) + ")", x.judge(n, over + 1), BAD);
            due("judge(" + n + ", -1)", x.judge(n, -1), BAD);
            due("judge(" + n + ", max)", x.judge(n, Integer.MAX_VALUE), BAD);
            due("judge(" + n + ", min)", x.judge(n, Integer.MIN_VALUE), BAD);
        }
        due("judge(4, 32 10 20 31): eight figures", x.judge(4, 32102031), NONE);
    }

    private static void judgeFigures() {
        check.sentence("Figures that tell no two PEOPLE, in any order, are none that may be");
        NeverHadBefore x = Check.fair("Pa000000Pb000000Pc000000");
        int[] noTwo = {0, 11, 22, 33, 3, 30, 13, 31, 23, 32, 44, 4, 40, 99, 9, 90};
        for (int told : noTwo) {
            due("judge(1, " + told + ")", x.judge(1, told), 0);
            due("judge(2, 01 " + told + ")", x.judge(2, 100 + told), 1);
            due("judge(2, " + told + " 01)", x.judge(2, 100 * told + 1), 0);
        }
        int[] two = {1, 10, 2, 20, 12, 21};
        for (int told : two) {
            due("judge(1, " + told + ")", x.judge(1, told), NONE);
        }
        due("judge(2, 10 01): made in either order", x.judge(2, 1001), 1);
        due("judge(2, 21 12): made in either order", x.judge(2, 2112), 1);
        due("judge(1, 01) of nobody", new NeverHadBefore().judge(1, 1), 0);
        due("judge(1, 00) of one alone", Check.fair("Pa000000").judge(1, 0), 0);
        due("judge(1, 01) of one alone", Check.fair("Pa000000").judge(1, 1), 0);
    }

    private static void judgeOneBehindTheOther() {
        check.sentence("the place (from 0) of the first that may not be, one behind the other; NONE: all may");
        NeverHadBefore x = Check.fair(FOUR);
        due("judge(1, 01)", x.judge(1, 1), NONE);
        due("judge(2, 01 01)", x.judge(2, 101), 1);
        due("judge(3, 01 01 23)", x.judge(3, 10123), 1);
        due("judge(3, 01 23 01)", x.judge(3, 12301), 2);
        due("judge(4, 01 23 02 02)", x.judge(4, 1230202), 3);
        due("judge(4, 01 12 01 23): 1 had b", x.judge(4, 1120123), 2);
        // Behind 01 and 03 person 3 holds b, with which 1 began.
        due("judge(3, 01 03 13)", x.judge(3, 10313), 2);
        Check.anew(x, "Pa000000cPb000000Pc000000b");
        due("judge(1, 02): 0 had c", x.judge(1, 2), 0);
        due("judge(1, 12): 2 had b", x.judge(1, 12), 0);
        due("judge(2, 01 12): a for c", x.judge(2, 112), NONE);
        due("judge(3, 01 12 02): 0 had c", x.judge(3, 11202), 2);
    }

    private static void judgeFromNowOn() {
        check.sentence("from now on: what is judged is not made");
        NeverHadBefore x = Check.fair(FOUR);
        x.exchange(0, 1);
        due("judge(1, 01)", x.judge(1, 1), 0);
        due("judge(4, 23 02 13 01)", x.judge(4, 23021301), NONE);
        due("judge(4, 23 02 13 02)", x.judge(4, 23021302), 3);
        due("about(3)", x.about(3), 1);
        int[] holds = {1, 0, 2, 3};
        int[] had = {3, 3, 4, 8};
        for (int p = 0; p < 4; p++) {
            due("holds(" + p + ")", x.holds(p), holds[p]);
            due("had(" + p + ")", x.had(p), had[p]);
        }
        due("undo()", x.undo(), 0);
        due("holds(0)", x.holds(0), 0);
        due("judge(1, 01) when undone", x.judge(1, 1), NONE);
    }
}
