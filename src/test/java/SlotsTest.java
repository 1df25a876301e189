/** Promises 33 and 34: what is kept, and gone on from. */
public final class SlotsTest {
    private static final int NONE = -9, UNKNOWN = -1, LATE = -3;
    private static final Check check = new Check("SlotsTest");

    private static void due(String call, long got, long want) {
        check.due(call, got, want);
    }

    public static void main(String[] args) {
        keep();
        again();
        nobody();
        check.end();
    }

    private static void keep() {
        NeverHadBefore x = Check.fair("Pa000000bPb000000aP-000000ab");
        due("keep(2)", x.keep(2), UNKNOWN);
        due("keep(-1)", x.keep(-1), UNKNOWN);
        due("again(2)", x.again(2), UNKNOWN);
        due("again(-1)", x.again(-1), UNKNOWN);
        due("again(0)", x.again(0), LATE);
        due("keep(0)", x.keep(0), 2);
        due("again(1): the other slot", x.again(1), LATE);
        x.sea(0);
        due("keep(1)", x.keep(1), 1);
        due("about(3): keeping is no end of acts", x.about(3), 1);
        due("again(0)", x.again(0), 2);
        due("again(1)", x.again(1), 1);
        due("again(0) again", x.again(0), 2);
        due("keep(1) anew", x.keep(1), 2);
        due("again(1) anew", x.again(1), 2);
    }

    private static void again() {
        NeverHadBefore x = Check.fair("Pa123456Pb123456Pc123456");
        x.exchange(0, 1);
        x.keep(1);
        x.exchange(0, 2);
        x.value(0, 0, 9);
        x.want(2, 1);
        x.sight(0, true);
        due("again(1)", x.again(1), 3);
        due("holds(0)", x.holds(0), 1);
        due("holds(1)", x.holds(1), 0);
        due("holds(2)", x.holds(2), 2);
        due("had(0)", x.had(0), 3);
        due("had(2)", x.had(2), 4);
        due("about(3): no acts", x.about(3), 0);
        due("undo()", x.undo(), LATE);
        due("worth(0, 0): worths are not kept", x.worth(0, 0), 9);
        due("want(2, NONE): wants are not kept", x.want(2, NONE), 1);
        due("about(5): sights are not kept", x.about(5), 1);
        x.exchange(0, 2);
        due("about(3) from there on", x.about(3), 1);
        due("again(0): not kept", x.again(0), LATE);
        due("about(3): refused, nothing changed", x.about(3), 1);
        due("holds(0): refused, nothing changed", x.holds(0), 2);
        due("undo() from there on", x.undo(), 0);
        due("holds(0)", x.holds(0), 1);
        x.fair();
        due("again(1) behind a new fair", x.again(1), LATE);
        due("holds(0) behind a new fair", x.holds(0), 0);
    }

    private static void nobody() {
        NeverHadBefore x = new NeverHadBefore();
        due("keep(0) of nobody", x.keep(0), 0);
        due("again(0) of nobody", x.again(0), 0);
        due("again(1) of nobody", x.again(1), LATE);
        x.fair();
        due("again(0): gone", x.again(0), LATE);
    }
}
