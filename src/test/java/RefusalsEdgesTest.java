import java.util.ArrayList;
import java.util.List;
import java.util.function.IntSupplier;
import java.util.function.IntUnaryOperator;

/** A test for each sentence of section 5: what is refused, what is told first, and that nothing changes by it. */
public final class RefusalsEdgesTest {
    private static final int NONE = -9, UNKNOWN = -1, BAD = -2, LATE = -3, FULL = -4;
    private static final Check check = new Check("RefusalsEdgesTest");

    private static void due(String call, long got, long want) {
        check.due(call, got, want);
    }

    public static void main(String[] args) {
        constants();
        wrongNumbers();
        toldFirst();
        refusedChangesNothing();
        tellingChangesNothing();
        fiveHundredAndTwelve();
        objectsApart();
        check.end();
    }

    private static void constants() {
        check.sentence("UNKNOWN -1 .., BAD -2, LATE -3, FULL -4 .. NONE is -9");
        due("UNKNOWN", NeverHadBefore.UNKNOWN, -1);
        due("BAD", NeverHadBefore.BAD, -2);
        due("LATE", NeverHadBefore.LATE, -3);
        due("FULL", NeverHadBefore.FULL, -4);
        due("NONE", NeverHadBefore.NONE, -9);
    }

    private static void dueOnly(String call, IntUnaryOperator answer, int least, int most, int refusal) {
        for (int n = -70; n <= 300; n++) {
            if (n < least || n > most) {
                due(call + " of " + n, answer.applyAsInt(n), refusal);
            }
        }
        for (int bit = 9; bit < 32; bit++) {
            for (int low = 0; low < 8; low++) {
                int n = (1 << bit) + low;
                due(call + " of " + n, answer.applyAsInt(n), refusal);
                due(call + " of " + ~n, answer.applyAsInt(~n), refusal);
            }
        }
    }

    // What an object answers behind its 512th call is free: so each wrong number has an object of its own.
    private static void wrongNumbers() {
        check.sentence("UNKNOWN -1 (there is no such PERSON, SORT, SLOT), BAD");
        dueOnly("write", n -> full().write(n, 0), 1, 8, BAD);
        dueOnly("about", n -> full().about(n), 0, 7, BAD);
        dueOnly("holds", n -> full().holds(n), 0, 3, UNKNOWN);
        dueOnly("had", n -> full().had(n), 0, 3, UNKNOWN);
        dueOnly("worth, person", n -> full().worth(n, 0), 0, 3, UNKNOWN);
        dueOnly("worth, sort", n -> full().worth(0, n), 0, 5, UNKNOWN);
        dueOnly("value, person", n -> full().value(n, 0, 0), 0, 3, UNKNOWN);
        dueOnly("value, sort", n -> full().value(0, n, 0), 0, 5, UNKNOWN);
        dueOnly("value, v", n -> full().value(0, 0, n), 0, 9, BAD);
        dueOnly("may, person", n -> full().may(n, 0), 0, 3, UNKNOWN);
        dueOnly("may, other", n -> full().may(3, n), 0, 3, UNKNOWN);
        dueOnly("exchange, person", n -> full().exchange(n, 0), 0, 3, UNKNOWN);
        dueOnly("exchange, other", n -> full().exchange(3, n), 0, 3, UNKNOWN);
        dueOnly("sea", n -> full().sea(n), 0, 3, UNKNOWN);
        dueOnly("judge, n", n -> full().judge(n, 1), 1, 4, BAD);
        dueOnly("want, person", n -> full().want(n, 0), 0, 3, UNKNOWN);
        dueOnly("want, sort (NONE: none)", n -> n == NONE ? UNKNOWN : full().want(0, n), 0, 5, UNKNOWN);
        dueOnly("plan", n -> full().plan(n), 0, 5, NONE);
        dueOnly("mayComeTo", n -> full().mayComeTo(n), 0, 3, UNKNOWN);
        dueOnly("begin", n -> full().begin(n), 0, 3, UNKNOWN);
        dueOnly("ringAt", n -> full().ringAt(n), 0, 3, UNKNOWN);
        dueOnly("frees", n -> full().frees(n), 0, 5, UNKNOWN);
        dueOnly("turns, k", n -> full().turns(n, 0), 1, 6, BAD);
        dueOnly("turns, person", n -> full().turns(1, n), 0, 3, UNKNOWN);
        dueOnly("first", n -> full().first(n), 1, 6, BAD);
        dueOnly("sight", n -> full().sight(n, true), 0, 5, UNKNOWN);
        dueOnly("listed", n -> full().listed(n), 0, 5, UNKNOWN);
        dueOnly("keep", n -> full().keep(n), 0, 1, UNKNOWN);
        dueOnly("again", n -> full().again(n), 0, 1, UNKNOWN);
    }

    /** One that has some of all: four people, acts, wants, sights up to 8, a slot, a text with a fault. */
    private static NeverHadBefore full() {
        NeverHadBefore x = new NeverHadBefore();
        Check.write(x, "Pa123456Pb654321Pc113355baPd999999");
        x.fair();
        x.exchange(0, 1);
        x.keep(1);
        x.exchange(2, 3);
        x.want(0, 3);
        x.want(1, 2);
        for (int s = 0; s < 8; s++) {
            x.sight(s % 3, s < 2);
        }
        x.write(1, 'd');
        return x;
    }

    private static void toldFirst() {
        check.sentence("Of several what is told first");
        NeverHadBefore x = full();
        Check.write(x, "0000000000000000000000000000000000000000");
        due("about(7)", x.about(7), 64);
        due("write(0, 0): BAD before FULL", x.write(0, 0), BAD);
        due("write(9, 0): BAD before FULL", x.write(9, 0), BAD);
        due("value(4, 0, 10): UNKNOWN before BAD", x.value(4, 0, 10), UNKNOWN);
        due("value(0, 6, 10): UNKNOWN before BAD", x.value(0, 6, 10), UNKNOWN);
        due("may(4, 4): UNKNOWN before BAD", x.may(4, 4), UNKNOWN);
        due("may(-1, -1): UNKNOWN before BAD", x.may(-1, -1), UNKNOWN);
        due("exchange(4, 4): UNKNOWN before BAD", x.exchange(4, 4), UNKNOWN);
        due("exchange(0, 4): UNKNOWN before LATE", x.exchange(0, 4), UNKNOWN);
        due("exchange(0, 0): BAD before LATE", x.exchange(0, 0), BAD);
        due("sea(4): UNKNOWN before LATE", x.sea(4), UNKNOWN);
        due("begin(4): UNKNOWN before LATE", x.begin(4), UNKNOWN);
        due("turns(0, 4): UNKNOWN before BAD", x.turns(0, 4), UNKNOWN);
        due("turns(7, -1): UNKNOWN before BAD", x.turns(7, -1), UNKNOWN);
        due("sight(6, true): UNKNOWN before FULL", x.sight(6, true), UNKNOWN);
        due("again(2): UNKNOWN before LATE", x.again(2), UNKNOWN);
    }

    private static int[] told(NeverHadBefore x) {
        List<Integer> all = new ArrayList<>();
        for (int what = 0; what <= 7; what++) {
            all.add(x.about(what));
        }
        for (int p = 0; p < 4; p++) {
            all.add(x.holds(p));
            all.add(x.had(p));
            all.add(x.mayComeTo(p));
            all.add(x.begin(p));
            all.add(x.ringAt(p));
            all.add(x.turns(6, p));
            for (int s = 0; s < 6; s++) {
                all.add(x.worth(p, s));
            }
        }
        for (int s = 0; s < 6; s++) {
            all.add(x.frees(s));
            all.add(x.listed(s));
            all.add(x.plan(s));
        }
        IntSupplier[] others = {x::fault, x::longest, x::shortest, x::runs, x::fewest, x::rings, x::lists};
        for (IntSupplier other : others) {
            all.add(other.getAsInt());
        }
        return all.stream().mapToInt(i -> i).toArray();
    }

    private static void dueSame(String call, NeverHadBefore x, int[] before) {
        int[] now = told(x);
        for (int i = 0; i < before.length; i++) {
            due("answer " + i + " of all behind " + call, now[i], before[i]);
        }
    }

    // What can be seen only by changing it: acts, wants, slots, the text.
    private static void dueWhole(String call, NeverHadBefore x) {
        due("want(0, NONE) behind " + call, x.want(0, NONE), 3);
        due("want(1, NONE) behind " + call, x.want(1, NONE), 2);
        due("want(2, NONE) behind " + call, x.want(2, NONE), NONE);
        due("undo() behind " + call, x.undo(), 1);
        due("holds(2) behind " + call, x.holds(2), 2);
        due("undo() again behind " + call, x.undo(), 0);
        due("holds(0) behind " + call, x.holds(0), 0);
        due("again(0) behind " + call, x.again(0), LATE);
        due("again(1) behind " + call, x.again(1), 4);
        due("holds(0) as kept behind " + call, x.holds(0), 1);
        due("holds(2) as kept behind " + call, x.holds(2), 2);
        due("unsee() behind " + call, x.unsee(), 8);
        due("wipe() behind " + call, x.wipe(), 35);
    }

    private interface Call {
        int of(NeverHadBefore x);
    }

    private static void dueRefused(String call, Call refused, int refusal) {
        NeverHadBefore x = full();
        int[] before = told(x);
        due(call, refused.of(x), refusal);
        dueSame(call, x, before);
        dueWhole(call, x);
    }

    private static void refusedChangesNothing() {
        check.sentence("What is refused changes nothing");
        dueRefused("write(0, 0)", x -> x.write(0, 0), BAD);
        dueRefused("write(9, -1)", x -> x.write(9, -1), BAD);
        dueRefused("fair()", NeverHadBefore::fair, LATE);
        dueRefused("about(8)", x -> x.about(8), BAD);
        dueRefused("value(4, 0, 1)", x -> x.value(4, 0, 1), UNKNOWN);
        dueRefused("value(-1, 6, 1)", x -> x.value(-1, 6, 1), UNKNOWN);
        dueRefused("value(0, 6, 1)", x -> x.value(0, 6, 1), UNKNOWN);
        dueRefused("value(0, 0, 10)", x -> x.value(0, 0, 10), BAD);
        dueRefused("exchange(0, 1)", x -> x.exchange(0, 1), LATE);
        dueRefused("exchange(3, 3)", x -> x.exchange(3, 3), BAD);
        dueRefused("exchange(0, 4)", x -> x.exchange(0, 4), UNKNOWN);
        dueRefused("sea(0)", x -> x.sea(0), LATE);
        dueRefused("sea(4)", x -> x.sea(4), UNKNOWN);
        dueRefused("judge(0, 1)", x -> x.judge(0, 1), BAD);
        dueRefused("judge(4, 100000000)", x -> x.judge(4, 100000000), BAD);
        dueRefused("want(4, 0)", x -> x.want(4, 0), UNKNOWN);
        dueRefused("want(0, 6)", x -> x.want(0, 6), UNKNOWN);
        dueRefused("turns(7, 0)", x -> x.turns(7, 0), BAD);
        dueRefused("first(0)", x -> x.first(0), BAD);
        dueRefused("sight(6, true)", x -> x.sight(6, true), UNKNOWN);
        dueRefused("sight(5, true)", x -> x.sight(5, true), FULL);
        dueRefused("keep(2)", x -> x.keep(2), UNKNOWN);
        dueRefused("again(2)", x -> x.again(2), UNKNOWN);
        dueRefused("again(0)", x -> x.again(0), LATE);
        NeverHadBefore x = new NeverHadBefore();
        due("undo()", x.undo(), LATE);
        due("about(3)", x.about(3), 0);
        for (int i = 0; i < 8; i++) {
            x.write(7, 0);
        }
        x.write(1, 0);
        due("write(8, 0) up to 65", x.write(8, 0), FULL);
        due("about(7)", x.about(7), 57);
    }

    private static void tellingChangesNothing() {
        check.sentence("promises that only tell: nothing changes");
        NeverHadBefore x = full();
        int[] before = told(x);
        dueSame("all that tells", x, before);
        due("judge(2, 03 13)", x.judge(2, 313), 1);
        due("may(0, 3)", x.may(0, 3), 1);
        due("first(6)", x.first(6), full().first(6));
        dueSame("all that tells again", x, before);
        dueWhole("all that tells", x);
    }

    private static void fiveHundredAndTwelve() {
        check.sentence("An object is used for at most 512 calls");
        NeverHadBefore x = new NeverHadBefore();
        Check.write(x, "Pa000000Pb000000Pc000000Pd000000");
        due("fair()", x.fair(), 4);
        int calls = 33;
        while (calls < 508) {
            due("runs()", x.runs(), 144);
            due("exchange(0, 1)", x.exchange(0, 1), 100);
            due("longest()", x.longest(), 5);
            due("undo()", x.undo(), 0);
            due("begin(0)", x.begin(0), 0);
            calls += 5;
        }
        due("about(3)", x.about(3), 0);
    }

    private static void objectsApart() {
        check.sentence("A new object: Nobody, whatever others have");
        NeverHadBefore x = full();
        NeverHadBefore y = new NeverHadBefore();
        for (int what = 0; what <= 7; what++) {
            due("about(" + what + ") of a new one", y.about(what), 0);
        }
        y.write(8, 0x5066303030303030L);
        due("fair() of the other one", y.fair(), 1);
        due("holds(0) of the other one", y.holds(0), 5);
        due("holds(0)", x.holds(0), 1);
        due("about(0)", x.about(0), 4);
    }
}
