/** Promises 24 to 28: rings, newcomers, turns. */
public final class RingsTest {
    private static final int NONE = -9, UNKNOWN = -1, BAD = -2;
    private static final Check check = new Check("RingsTest");

    private static void due(String call, long got, long want) {
        check.due(call, got, want);
    }

    public static void main(String[] args) {
        rings();
        ringsOfLike();
        frees();
        turns();
        turnsLookAhead();
        turnsWrong();
        check.end();
    }

    private static void dueRings(String text, int gain, int... from) {
        NeverHadBefore x = Check.fair(text);
        due("rings() of " + text, x.rings(), gain);
        for (int i = 0; i < from.length; i++) {
            due("ringAt(" + i + ") of " + text, x.ringAt(i), from[i]);
        }
        due("ringAt(" + from.length + ") of " + text, x.ringAt(from.length), UNKNOWN);
        due("ringAt(-1) of " + text, x.ringAt(-1), UNKNOWN);
    }

    private static void rings() {
        dueRings("", 0);
        dueRings("Pa000000", 0, 0);
        dueRings("Pa010000Pb100000", 2, 1, 0);
        dueRings("Pa010000Pb000000", 0, 0, 1);
        dueRings("Pa010000bPb900000", 0, 0, 1);
        dueRings("P-090000Pb900000", 0, 0, 1);
        dueRings("Pa090000P-900000", 0, 0, 1);
        // Each of three wants what the next one holds.
        dueRings("Pa010000Pb001000Pc100000", 3, 1, 2, 0);
        // Two pairs at once.
        dueRings("Pa010000Pb100000Pc000200Pd002000", 6, 1, 0, 3, 2);
        // A ring of four beats the pair in it.
        dueRings("Pa050000Pb505000Pc000500Pd500000", 20, 1, 2, 3, 0);
        // The pair of 0 and 2 is worth more than the ring of all.
        dueRings("Pa019000Pb001000Pc900000", 18, 2, 1, 0);
    }

    private static void ringsOfLike() {
        // 0 and 1, or 0 and 2: as much, by as few; 0 takes from the least.
        dueRings("Pa055000Pb500000Pc500000", 10, 1, 0, 2);
        // Two by 10, or three by 10: the fewest people.
        dueRings("Pa036000Pb003000Pc430000", 10, 2, 1, 0);
        // Three by 3 with 0, or without it: 0 from itself is less than from 1.
        dueRings("Pa010000Pb001000Pc100100Pd010000", 3, 0, 2, 3, 1);
        // Two rings of three: 0 takes from 1 in the first.
        dueRings("Pa055000Pb505000Pc550000", 15, 1, 2, 0);
        dueRings("Pb050500Pa550500Pd555500", 0, 0, 1, 2);
    }

    private static void frees() {
        NeverHadBefore x = Check.fair("Pa000000Pa000000P-000000Pa000000b");
        due("frees(0): it is not new", x.frees(0), 0);
        due("frees(1): not 3, it had that; not 2, it holds nothing", x.frees(1), 1 + 2);
        due("frees(5)", x.frees(5), 1 + 2 + 8);
        due("frees(6)", x.frees(6), UNKNOWN);
        due("frees(-1)", x.frees(-1), UNKNOWN);
        due("about(0): the newcomer does not stay", x.about(0), 4);
        Check.anew(x, "Pa000000Pb000000Pc000000ab");
        due("frees(3): 0 and 1 are free now", x.frees(3), 4);
        due("frees(1): 2 had it", x.frees(1), 0);
        x.exchange(0, 1);
        due("frees(3): c may not be had from 2", x.frees(3), 7);
        due("frees(2): only 0 and 1 never had it", x.frees(2), 3);
        Check.anew(x, "Pa000000Pb000000");
        due("frees(2): both are free now", x.frees(2), 0);
    }

    private static void turns() {
        NeverHadBefore x = Check.fair("Pa019000Pb500000Pc500000");
        due("first(1): c is worth most", x.first(1), 2);
        due("turns(1, 0)", x.turns(1, 0), 2);
        due("turns(1, 1)", x.turns(1, 1), 1);
        due("turns(1, 2)", x.turns(1, 2), 0);
        x.value(2, 2, 6);
        due("first(1): 2 gives c for no a", x.first(1), 1);
        x.value(2, 2, 5);
        x.value(2, 0, 5);
        due("first(1): no less is enough", x.first(1), 2);
        x.value(0, 2, 0);
        x.value(0, 1, 0);
        due("first(1): of like ones it passes", x.first(1), NONE);
        due("turns(1, 0): passed", x.turns(1, 0), 0);
        x.value(0, 2, 3);
        x.value(0, 1, 3);
        due("first(1): of like ones from the least", x.first(1), 1);
        Check.anew(x, "P-999999Pa090000Pb900000");
        due("first(1): it holds nothing", x.first(1), NONE);
        due("turns(1, 0): nothing", x.turns(1, 0), NONE);
        due("turns(1, 1): no turn yet", x.turns(1, 1), 0);
        due("turns(2, 1): its turn", x.turns(2, 1), 1);
        due("turns(2, 2)", x.turns(2, 2), 0);
        due("holds(1) as before", x.holds(1), 0);
        due("had(1) as before", x.had(1), 1);
    }

    private static void turnsLookAhead() {
        // 0 would have c (9), but 2 gives it for b alone: what 0 takes from 1, it can give in the turn of 2.
        NeverHadBefore x = Check.fair("Pa529000Pb900000Pc061000");
        due("first(1): b is less than a", x.first(1), NONE);
        due("first(2): b is less than a", x.first(2), NONE);
        due("first(3)", x.first(3), 1);
        due("turns(3, 0)", x.turns(3, 0), 2);
        due("turns(3, 1)", x.turns(3, 1), 0);
        due("turns(3, 2)", x.turns(3, 2), 1);
        // With a turn more 2 takes b from 1, and 0 then c from 1: so it passes, as that leaves as much.
        due("first(4)", x.first(4), NONE);
        due("turns(4, 0)", x.turns(4, 0), 2);
        due("turns(4, 1)", x.turns(4, 1), 0);
        due("turns(4, 2)", x.turns(4, 2), 1);
    }

    private static void turnsWrong() {
        NeverHadBefore x = Check.fair("Pa000000");
        due("turns(0, 0)", x.turns(0, 0), BAD);
        due("turns(7, 0)", x.turns(7, 0), BAD);
        due("turns(-1, 0)", x.turns(-1, 0), BAD);
        due("turns(7, 1): the person first", x.turns(7, 1), UNKNOWN);
        due("turns(1, -1)", x.turns(1, -1), UNKNOWN);
        due("turns(6, 0) of one alone", x.turns(6, 0), 0);
        due("first(6) of one alone", x.first(6), NONE);
        due("first(0)", x.first(0), BAD);
        due("first(7)", x.first(7), BAD);
        NeverHadBefore nobody = new NeverHadBefore();
        due("first(1) of nobody", nobody.first(1), NONE);
        due("first(0) of nobody", nobody.first(0), BAD);
        due("turns(1, 0) of nobody", nobody.turns(1, 0), UNKNOWN);
    }
}
