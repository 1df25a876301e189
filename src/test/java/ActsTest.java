/** Promises 11 to 15: exchanges, the sea, what is undone, what is judged. */
public final class ActsTest {
    private static final int NONE = -9, UNKNOWN = -1, BAD = -2, LATE = -3;
    private static final Check check = new Check("ActsTest");

    private static void due(String call, long got, long want) {
        check.due(call, got, want);
    }

    public static void main(String[] args) {
        may();
        exchange();
        sea();
        undo();
        judge();
        judgeWrong();
        check.end();
    }

    private static void may() {
        NeverHadBefore x = Check.fair("Pa000000Pb000000Pc000000aP-000000");
        due("may(0, 1)", x.may(0, 1), 1);
        due("may(1, 0)", x.may(1, 0), 1);
        due("may(0, 2): a is not new to 2", x.may(0, 2), 0);
        due("may(2, 0)", x.may(2, 0), 0);
        due("may(1, 2)", x.may(1, 2), 1);
        due("may(0, 3): 3 holds nothing", x.may(0, 3), 0);
        due("may(3, 0)", x.may(3, 0), 0);
        due("may(1, 1)", x.may(1, 1), BAD);
        due("may(0, 4)", x.may(0, 4), UNKNOWN);
        due("may(-1, 0)", x.may(-1, 0), UNKNOWN);
        due("may(5, 5)", x.may(5, 5), UNKNOWN);
        Check.anew(x, "Pa000000Pa000000");
        due("may of two of a sort", x.may(0, 1), 0);
    }

    private static void exchange() {
        NeverHadBefore x = Check.fair("Pa900000Pb090000Pc525000b");
        due("exchange(0, 1) of what both love", x.exchange(0, 1), 100 - 9 - 9);
        due("holds(0)", x.holds(0), 1);
        due("holds(1)", x.holds(1), 0);
        due("had(0)", x.had(0), 3);
        due("had(1)", x.had(1), 3);
        due("exchange(1, 0): both had it", x.exchange(1, 0), LATE);
        due("exchange(2, 0): b is not new to 2", x.exchange(2, 0), LATE);
        due("exchange(2, 1)", x.exchange(2, 1), 100 + 0 + 0);
        due("holds(1)", x.holds(1), 2);
        due("holds(2)", x.holds(2), 0);
        due("had(1)", x.had(1), 7);
        due("had(2)", x.had(2), 7);
        due("about(3)", x.about(3), 2);
        due("exchange(1, 1)", x.exchange(1, 1), BAD);
        due("exchange(3, 3)", x.exchange(3, 3), UNKNOWN);
        due("exchange(0, 3)", x.exchange(0, 3), UNKNOWN);
        due("exchange(-1, 0)", x.exchange(-1, 0), UNKNOWN);
        Check.anew(x, "Pa090000Pb900000P-000000");
        due("exchange(1, 0) of what both want", x.exchange(1, 0), 118);
        due("exchange(0, 2): 2 holds nothing", x.exchange(0, 2), LATE);
    }

    private static void sea() {
        NeverHadBefore x = Check.fair("Pa300000bPb040000aPc000000abP-000000ab");
        due("sea(3): holds nothing", x.sea(3), LATE);
        due("sea(2): c is new to others", x.sea(2), LATE);
        due("sea(4)", x.sea(4), UNKNOWN);
        due("sea(-1)", x.sea(-1), UNKNOWN);
        due("sea(1)", x.sea(1), 1);
        due("holds(1)", x.holds(1), NONE);
        due("had(1) stays", x.had(1), 3);
        due("about(1)", x.about(1), 2);
        due("about(6)", x.about(6), 3);
        due("about(3)", x.about(3), 1);
        due("sea(1) again", x.sea(1), LATE);
        due("may(1, 2)", x.may(1, 2), 0);
        due("sea(0)", x.sea(0), 0);
        Check.anew(x, "Pa000000P-000000");
        due("sea(0): new to one that holds nothing", x.sea(0), LATE);
        Check.anew(x, "Pe000000");
        due("sea(0) of one alone", x.sea(0), 4);
        due("sea(0) of one alone again", x.sea(0), LATE);
    }

    private static void undo() {
        NeverHadBefore x = Check.fair("Pa000000Pb000000Pc000000ab");
        due("undo() of nothing", x.undo(), LATE);
        x.exchange(0, 1);
        due("sea(0)", x.sea(0), 1);
        due("sea(1)", x.sea(1), 0);
        due("about(3)", x.about(3), 3);
        due("undo() of a sea", x.undo(), 2);
        due("holds(1)", x.holds(1), 0);
        due("holds(0)", x.holds(0), NONE);
        due("undo() of the other sea", x.undo(), 1);
        due("holds(0)", x.holds(0), 1);
        x.value(0, 0, 7);
        due("undo() of the exchange", x.undo(), 0);
        due("holds(0)", x.holds(0), 0);
        due("holds(1)", x.holds(1), 1);
        due("had(0)", x.had(0), 1);
        due("had(1)", x.had(1), 2);
        due("worth(0, 0): values stay", x.worth(0, 0), 7);
        due("undo() of none", x.undo(), LATE);
        due("exchange(0, 1) may be again", x.exchange(0, 1), 93);
    }

    private static void judge() {
        NeverHadBefore x = Check.fair("Pa000000Pb000000Pc000000Pd000000");
        due("judge(1, 1)", x.judge(1, 1), NONE);
        due("judge(1, 10): any order", x.judge(1, 10), NONE);
        due("judge(2, 101): twice the same", x.judge(2, 101), 1);
        due("judge(2, 102)", x.judge(2, 102), NONE);
        due("judge(2, 123)", x.judge(2, 123), NONE);
        due("judge(3, 12302)", x.judge(3, 12302), NONE);
        due("judge(4, 1230213)", x.judge(4, 1230213), NONE);
        due("judge(4, 1230223): 2 began with c", x.judge(4, 1230223), 3);
        due("judge(3, 10123): the first one may not be twice", x.judge(3, 10123), 1);
        due("judge(4, 32323232)", x.judge(4, 32323232), 1);
        due("judge(2, 1): the first tells 0 and 0", x.judge(2, 1), 0);
        due("judge(1, 0)", x.judge(1, 0), 0);
        due("judge(1, 33): no two", x.judge(1, 33), 0);
        due("judge(1, 4): no such person", x.judge(1, 4), 0);
        due("judge(1, 99)", x.judge(1, 99), 0);
        due("judge(2, 140)", x.judge(2, 140), 1);
        for (int i = 0; i < 4; i++) {
            due("holds(" + i + ") as before", x.holds(i), i);
            due("had(" + i + ") as before", x.had(i), 1 << i);
        }
        due("about(3) as before", x.about(3), 0);
    }

    private static void judgeWrong() {
        NeverHadBefore x = Check.fair("Pa000000Pb000000");
        due("judge(0, 0)", x.judge(0, 0), BAD);
        due("judge(5, 1)", x.judge(5, 1), BAD);
        due("judge(-1, 1)", x.judge(-1, 1), BAD);
        due("judge(1, -1)", x.judge(1, -1), BAD);
        due("judge(1, 100)", x.judge(1, 100), BAD);
        due("judge(2, 10000)", x.judge(2, 10000), BAD);
        due("judge(2, 9999)", x.judge(2, 9999), 0);
        due("judge(3, 1000000)", x.judge(3, 1000000), BAD);
        due("judge(4, 99999999)", x.judge(4, 99999999), 0);
        due("judge(4, 100000000)", x.judge(4, 100000000), BAD);
        due("judge(4, max)", x.judge(4, Integer.MAX_VALUE), BAD);
        due("judge(4, min)", x.judge(4, Integer.MIN_VALUE), BAD);
        due("judge(2, 199)", x.judge(2, 199), 1);
        x.wipe();
        x.fair();
        due("judge(1, 1) of nobody", x.judge(1, 1), 0);
    }
}
