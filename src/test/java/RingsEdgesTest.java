/** A test for each sentence that names an edge of rings, newcomers and turns (promises 24 to 28). */
public final class RingsEdgesTest {
    private static final int NONE = -9, UNKNOWN = -1, BAD = -2;
    private static final int[] NO_PERSONS =
        {4, -1, 5, 10, 32, 64, 256, -4, -32, -9, Integer.MAX_VALUE, Integer.MIN_VALUE};
    private static final int[] NO_SORTS =
        {6, -1, 7, -8, -9, -10, 9, 31, 32, 37, 64, 97, 256, -32, Integer.MAX_VALUE, Integer.MIN_VALUE};
    private static final int[] NO_TURNS = {0, 7, -1, 8, -6, 10, 32, 33, 256, Integer.MAX_VALUE, Integer.MIN_VALUE};
    private static final Check check = new Check("RingsEdgesTest");

    private static void due(String call, long got, long want) {
        check.due(call, got, want);
    }

    public static void main(String[] args) {
        ringsOfNone();
        ringsFromAnother();
        ringsOneToEach();
        ringsOfNew();
        ringsOfMoreWorth();
        ringsOfWhoHolds();
        bestIsMost();
        bestIsOfFewest();
        bestIsFirst();
        ringAtUnknown();
        ringsFromNowOn();
        newcomerHadThatAlone();
        newcomerFreesWhoCouldNot();
        newcomerOfAnySort();
        turnsInOrder();
        turnsComeRoundAgain();
        turnsTakeNoLess();
        turnsOfNothing();
        turnsLeaveMost();
        turnsKnowing();
        turnsOfLikeOnes();
        turnsOfFour();
        turnsRefused();
        firstAnswers();
        firstRefused();
        noneIsMade();
        check.end();
    }

    private static void dueRings(String text, int gain, int... from) {
        NeverHadBefore x = Check.fair(text);
        for (int i = 0; i < from.length; i++) {
            due("ringAt(" + i + ") of " + text, x.ringAt(i), from[i]);
        }
        due("ringAt(" + from.length + ") of " + text, x.ringAt(from.length), UNKNOWN);
        due("rings() of " + text, x.rings(), gain);
    }

    private static void ringsOfNone() {
        check.sentence("BEST RINGS: of none, 0; each takes from itself");
        dueRings("", 0);
        dueRings("P-999999", 0, 0);
        dueRings("Pa999999", 0, 0);
        dueRings("Pa000000Pb000000Pc000000Pd000000", 0, 0, 1, 2, 3);
    }

    private static void ringsFromAnother() {
        check.sentence("some PEOPLE at once take each what another one of them HOLDS");
        dueRings("Pa010000Pb100000", 2, 1, 0);
        dueRings("Pa000100Pb000000Pc000000Pd100000", 2, 3, 1, 2, 0);
        // A row is no ring: the last one has nobody to take from.
        dueRings("Pa010000Pb001000Pc000000", 0, 0, 1, 2);
        dueRings("Pa090000Pb000000", 0, 0, 1);
    }

    private static void ringsOneToEach() {
        check.sentence("each one's thing is taken by one");
        // 0 and 2 both would have b.
        dueRings("Pa010000Pb100000Pc010000", 2, 1, 0, 2);
        dueRings("Pa010000Pb101000Pc010000", 2, 0, 2, 1);
        dueRings("Pa010000Pb101000Pc090000", 10, 0, 2, 1);
    }

    private static void ringsOfNew() {
        check.sentence("each takes what is new to it");
        dueRings("Pa090000bPb900000", 0, 0, 1);
        dueRings("Pa090000Pb900000a", 0, 0, 1);
        dueRings("Pa090000cdefPb900000cdef", 18, 1, 0);
        // A ring of three may be where no two may exchange: 1 had a, 2 had b, 0 had c.
        dueRings("Pa010000cPb001000aPc100000b", 3, 1, 2, 0);
        NeverHadBefore x = Check.fair("Pa090000Pb900000Pc111111");
        x.exchange(0, 1);
        x.value(0, 0, 9);
        x.value(0, 1, 0);
        x.value(1, 1, 9);
        x.value(1, 0, 0);
        due("rings() behind the exchange", x.rings(), 0);
    }

    private static void ringsOfMoreWorth() {
        check.sentence("and WORTH more to it than what it HOLDS");
        dueRings("Pa110000Pb900000", 0, 0, 1);
        dueRings("Pa120000Pb900000", 10, 1, 0);
        dueRings("Pa090000Pb990000", 0, 0, 1);
        dueRings("Pa090000Pb980000", 10, 1, 0);
        dueRings("Pa210000Pb900000", 0, 0, 1);
    }

    private static void ringsOfWhoHolds() {
        check.sentence("take each what another one of them HOLDS: who HOLDS nothing is in none");
        dueRings("P-990000Pb990000", 0, 0, 1);
        dueRings("Pa990000P-990000", 0, 0, 1);
        dueRings("P-999999Pa010000Pb100000", 2, 0, 2, 1);
        dueRings("Pa019000P-999999Pc900000", 18, 2, 1, 0);
    }

    private static void bestIsMost() {
        check.sentence("by which the WORTH that all have more is most together");
        dueRings("Pa090000Pb009000Pc000900Pd900000", 36, 1, 2, 3, 0);
        // A ring of three by 11, more than a pair of it by 9; then a pair by 10, more than others.
        dueRings("Pa054000Pb402000Pc400000", 11, 1, 2, 0);
        dueRings("Pa065000Pb400000Pc400000", 10, 1, 0, 2);
        dueRings("Pa056000Pb400000Pc400000", 10, 2, 1, 0);
        // Two pairs together, though another pair is the best of pairs.
        dueRings("Pa050600Pb500000Pc000500Pd605000", 20, 1, 0, 3, 2);
        dueRings("Pa050900Pb500000Pc000100Pd901000", 18, 3, 1, 2, 0);
    }

    private static void bestIsOfFewest() {
        check.sentence("of like ones with fewest PEOPLE");
        // Two by 10, or three by 10.
        dueRings("Pa036000Pb003000Pc430000", 10, 2, 1, 0);
        // Two by 8, or two pairs by 8: the pair of 1 and 2.
        dueRings("Pa020000Pb204000Pc040200Pd002000", 8, 0, 2, 1, 3);
        // Three by 12, or four by 12.
        dueRings("Pa040000Pb005300Pc300200Pd100000", 12, 1, 2, 0, 3);
    }

    private static void bestIsFirst() {
        check.sentence("the first by from whom PERSON 0 takes (by number; itself, if it takes nothing), then PERSON 1, ..");
        // 0 with 1, or 0 with 2.
        dueRings("Pa055000Pb500000Pc500000", 10, 1, 0, 2);
        // 1 with 2, or 0 with 1: itself is less than 1.
        dueRings("Pa050000Pb505000Pc050000", 10, 0, 2, 1);
        // 2 with 3, 1 with 3, 0 with 3: 0 and 1 take nothing.
        dueRings("Pa000500Pb000500Pc000500Pd555000", 10, 0, 1, 3, 2);
        // 1 with 2, or 1 with 3.
        dueRings("Pa000000Pb005500Pc050000Pd050000", 10, 0, 2, 1, 3);
        // 0 takes from 1 in both: two pairs, in which 1 takes from 0, and a ring of four.
        dueRings("Pa050000Pb505000Pc000500Pd505000", 20, 1, 0, 3, 2);
        // Both ways round, of three.
        dueRings("Pa055000Pb505000Pc550000", 15, 1, 2, 0);
        // 0 from 1 and 1 from 2 or 3: the ring of 0, 1, 2.
        dueRings("Pa050000Pb005500Pc500000Pd500000", 15, 1, 2, 0, 3);
    }

    private static void ringAtUnknown() {
        check.sentence("From whom a PERSON takes in them. UNKNOWN");
        NeverHadBefore x = Check.fair("Pa010000Pb100000P-000000Pd000000");
        for (int wrong : NO_PERSONS) {
            due("ringAt(" + wrong + ")", x.ringAt(wrong), UNKNOWN);
        }
        due("ringAt(0)", x.ringAt(0), 1);
        due("ringAt(1)", x.ringAt(1), 0);
        due("ringAt(2)", x.ringAt(2), 2);
        due("ringAt(3)", x.ringAt(3), 3);
    }

    private static void ringsFromNowOn() {
        check.sentence("BEST RINGS, by what PEOPLE HOLD now and what it is WORTH now");
        NeverHadBefore x = Check.fair("Pa010000Pb100000Pc000000");
        due("ringAt(0)", x.ringAt(0), 1);
        x.value(0, 2, 9);
        x.value(2, 0, 9);
        due("ringAt(0) by new values", x.ringAt(0), 2);
        due("ringAt(1) by new values", x.ringAt(1), 1);
        due("rings() by new values", x.rings(), 18);
        x.exchange(0, 2);
        due("ringAt(0) behind the exchange", x.ringAt(0), 0);
        due("rings() behind the exchange", x.rings(), 0);
        x.undo();
        due("rings() when undone", x.rings(), 18);
    }

    private static void newcomerHadThatAlone() {
        check.sentence("A NEWCOMER with a SORT (it has HAD that alone)");
        // What is old to all others is new to the newcomer.
        NeverHadBefore x = Check.fair("Pa000000bPb000000a");
        for (int s = 0; s < 6; s++) {
            due("frees(" + s + ")", x.frees(s), s < 2 ? 0 : 3);
        }
        // Its own sort is not new to it; so who holds a is not freed by a.
        Check.anew(x, "Pa000000Pa000000");
        due("frees(0)", x.frees(0), 0);
        due("frees(1)", x.frees(1), 3);
    }

    private static void newcomerFreesWhoCouldNot() {
        check.sentence("FREES those who could make no EXCHANGE now and may make one with it");
        NeverHadBefore x = Check.fair("Pa000000Pb000000Pc000000abdP-000000");
        due("frees(3): 2 had d", x.frees(3), 0);
        due("frees(4): 0 and 1 could", x.frees(4), 4);
        x.exchange(0, 1);
        due("frees(4): none could", x.frees(4), 7);
        due("frees(2): it is new to 0 and 1", x.frees(2), 3);
        due("frees(3): it is new to 0 and 1", x.frees(3), 3);
        due("frees(0): it is old to all", x.frees(0), 0);
        x.undo();
        due("frees(4) when undone", x.frees(4), 4);
        Check.anew(x, "P-000000P-000000abcdef");
        for (int s = 0; s < 6; s++) {
            due("frees(" + s + ") of who holds nothing", x.frees(s), 0);
        }
    }

    private static void newcomerOfAnySort() {
        check.sentence("Whom a NEWCOMER FREES, as bits. UNKNOWN");
        NeverHadBefore x = Check.fair("Pa000000Pa000000Pa000000Pa000000");
        due("frees(0): none", x.frees(0), 0);
        due("frees(1): a fifth one may come to four", x.frees(1), 15);
        due("frees(5)", x.frees(5), 15);
        due("about(0)", x.about(0), 4);
        for (int wrong : NO_SORTS) {
            due("frees(" + wrong + ")", x.frees(wrong), UNKNOWN);
        }
        NeverHadBefore nobody = new NeverHadBefore();
        due("frees(5) of nobody", nobody.frees(5), 0);
        due("frees(6) of nobody", nobody.frees(6), UNKNOWN);
        due("frees(1) of one alone", Check.fair("Pa000000").frees(1), 1);
        due("frees(0) of one alone", Check.fair("Pa000000").frees(0), 0);
    }

    private static void dueTurns(String text, int k, int first, int... holds) {
        NeverHadBefore x = Check.fair(text);
        for (int p = 0; p < holds.length; p++) {
            due("turns(" + k + ", " + p + ") of " + text, x.turns(k, p), holds[p]);
        }
        due("first(" + k + ") of " + text, x.first(k), first);
    }

    private static void turnsInOrder() {
        check.sentence("TURNS: k of them (1 .. 6), of PERSON 0, 1, ..");
        // 0 has a turn, then 1: it takes c, which nobody else would have.
        String text = "Pa150000Pb559000Pc303000";
        dueTurns(text, 1, 1, 1, 0, 2);
        dueTurns(text, 2, 1, 1, 2, 0);
        // Only 1 would have another thing: not by the first turn.
        dueTurns("Pa550000Pb900000", 1, NONE, 0, 1);
        dueTurns("Pa550000Pb900000", 2, NONE, 1, 0);
        // Only 2 would: not by the second.
        dueTurns("Pa500000Pb000000Pc000000", 2, NONE, 0, 1, 2);
        dueTurns("Pa500000Pb000000Pc010000", 2, NONE, 0, 1, 2);
        dueTurns("Pa500000Pb000000Pc010000", 3, NONE, 0, 2, 1);
        // Only 3 would: by the fourth.
        dueTurns("Pa500000Pb000000Pc000000Pd010000", 3, NONE, 0, 1, 2, 3);
        dueTurns("Pa500000Pb000000Pc000000Pd010000", 4, NONE, 0, 3, 2, 1);
        dueTurns("Pa500000Pb000000Pc000000Pd010000", 6, NONE, 0, 3, 2, 1);
    }

    private static void turnsComeRoundAgain() {
        check.sentence("TURNS .. of PERSON 0, 1, .., 0, 1, ..");
        // 0 would have c, which 2 gives for b alone: so 0 takes b, if it has a turn more to give it on.
        String text = "Pa529000Pb900000cPc066000";
        dueTurns(text, 1, NONE, 0, 1, 2);
        dueTurns(text, 2, NONE, 0, 1, 2);
        dueTurns(text, 3, NONE, 0, 1, 2);
        dueTurns(text, 4, 1, 2, 0, 1);
        dueTurns(text, 5, 1, 2, 0, 1);
        dueTurns(text, 6, 1, 2, 0, 1);
        // 0 would have b, for which 1 takes no a: it takes c, and gives it in the fifth turn, which is its own.
        text = "Pa030000Pb000000aPc000000Pd000000";
        dueTurns(text, 4, NONE, 0, 1, 2, 3);
        dueTurns(text, 5, 2, 1, 2, 0, 3);
        dueTurns(text, 6, 2, 1, 2, 0, 3);
        // 1 would have a, for which 0 takes no b: it takes c, and gives it in the sixth turn.
        text = "Pa000000bPb200000Pc000000Pd000000";
        dueTurns(text, 5, NONE, 0, 1, 2, 3);
        dueTurns(text, 6, NONE, 2, 0, 1, 3);
        // What can be done in the fifth turn as well is put off: of like ones it passes.
        dueTurns("Pa020000Pb000000Pc000000Pd000000", 4, 1, 1, 0, 2, 3);
        dueTurns("Pa020000Pb000000Pc000000Pd000000", 5, NONE, 1, 0, 2, 3);
    }

    private static void turnsTakeNoLess() {
        check.sentence("an EXCHANGE with one to whom that is WORTH no less than what it HOLDS");
        dueTurns("Pa090000Pb000000", 1, 1, 1, 0);
        dueTurns("Pa090000Pb550000", 1, 1, 1, 0);
        dueTurns("Pa090000Pb560000", 1, NONE, 0, 1);
        dueTurns("Pa090000Pb650000", 1, 1, 1, 0);
        dueTurns("Pa090000Pb010000", 1, NONE, 0, 1);
        // Only what may be: b is old to 0, or a to 1.
        dueTurns("Pa090000bPb900000", 1, NONE, 0, 1);
        dueTurns("Pa090000Pb900000a", 1, NONE, 0, 1);
        dueTurns("Pa090000P-999999", 6, NONE, 0, NONE);
    }

    private static void turnsOfNothing() {
        check.sentence("what it HOLDS behind all TURNS (WORTH to it; nothing: 0)");
        dueTurns("P-999999", 1, NONE, NONE);
        dueTurns("P-999999", 6, NONE, NONE);
        dueTurns("P-999999Pa090000Pb900000", 1, NONE, NONE, 0, 1);
        dueTurns("P-999999Pa090000Pb900000", 2, NONE, NONE, 1, 0);
        dueTurns("Pa090000P-999999Pb900000", 1, 2, 1, NONE, 0);
        dueTurns("Pa000000P-999999Pb900000", 2, NONE, 0, NONE, 1);
        dueTurns("Pa000000P-999999Pb900000", 3, NONE, 1, NONE, 0);
        NeverHadBefore x = Check.fair("Pa000000Pb000000a");
        x.sea(0);
        due("turns(6, 0) behind a sea", x.turns(6, 0), NONE);
        due("turns(6, 1) behind a sea", x.turns(6, 1), 1);
    }

    private static void turnsLeaveMost() {
        check.sentence("it does what leaves it most");
        dueTurns("Pa012000Pb000000Pc000000", 1, 2, 2, 1, 0);
        dueTurns("Pa021000Pb000000Pc000000", 1, 1, 1, 0, 2);
        dueTurns("Pa312000Pb000000Pc000000", 1, NONE, 0, 1, 2);
        dueTurns("Pa100200Pb000000Pc000000Pd000000", 1, 3, 3, 1, 2, 0);
        // 0 may take d (5); if it passes, and there is a turn of 2, then 1 gives it b (9) for a, which 2 takes for c.
        String text = "Pa090500cPb059100dPc901000dPd915900";
        dueTurns(text, 1, 3, 3, 1, 2, 0);
        dueTurns(text, 2, 3, 3, 1, 2, 0);
        dueTurns(text, 3, NONE, 1, 2, 0, 3);
    }

    private static void turnsKnowing() {
        check.sentence("knowing that all do");
        // 0 takes b, which it would not have: in the turn of 2 that is what c is given for.
        dueTurns("Pa529000Pb900000Pc061000", 2, NONE, 0, 1, 2);
        dueTurns("Pa529000Pb900000Pc061000", 3, 1, 2, 0, 1);
        // With a fourth turn 1 takes a of itself, and gives b for it: 0 passes.
        dueTurns("Pa529000Pb900000Pc061000", 4, NONE, 2, 0, 1);
    }

    private static void turnsOfLikeOnes() {
        check.sentence("of like ones it passes, or takes from the least PERSON");
        dueTurns("Pa555500Pb000000Pc000000Pd000000", 1, NONE, 0, 1, 2, 3);
        dueTurns("Pa055500Pb000000Pc000000Pd000000", 1, 1, 1, 0, 2, 3);
        dueTurns("Pa005500Pb000000Pc000000Pd000000", 1, 2, 2, 1, 0, 3);
        dueTurns("Pa045500Pb000000Pc000000Pd000000", 1, 2, 2, 1, 0, 3);
        dueTurns("Pa054500Pb000000Pc000000Pd000000", 1, 1, 1, 0, 2, 3);
        dueTurns("Pa050000Pb000000Pb000000", 1, 1, 1, 0, 1);
        dueTurns("Pa050000Pb010000Pb000000", 1, 2, 1, 1, 0);
        // In its turn 1 makes the same exchange: so 0 passes.
        dueTurns("Pa090000Pb900000", 1, 1, 1, 0);
        dueTurns("Pa090000Pb900000", 2, NONE, 1, 0);
        // In the turn of 1, too: of 0 and 2 it takes from 0.
        dueTurns("Pa000000Pb500000Pa000000", 2, NONE, 1, 0, 0);
    }

    private static void turnsOfFour() {
        check.sentence("TURNS of the most PEOPLE");
        String text = "Pa090000cdPb900000cdPc000900abPd009000ab";
        dueTurns(text, 1, 1, 1, 0, 2, 3);
        dueTurns(text, 2, NONE, 1, 0, 2, 3);
        dueTurns(text, 3, NONE, 1, 0, 3, 2);
        dueTurns(text, 4, NONE, 1, 0, 3, 2);
        dueTurns(text, 6, NONE, 1, 0, 3, 2);
    }

    private static void turnsRefused() {
        check.sentence("turns: UNKNOWN; BAD: k (1 .. 6)");
        NeverHadBefore x = Check.fair("Pa000000Pb000000Pc000000Pd000000");
        for (int k : NO_TURNS) {
            due("turns(" + k + ", 0)", x.turns(k, 0), BAD);
            due("turns(" + k + ", 3)", x.turns(k, 3), BAD);
            due("turns(" + k + ", 4)", x.turns(k, 4), UNKNOWN);
            due("turns(" + k + ", -1)", x.turns(k, -1), UNKNOWN);
        }
        for (int wrong : NO_PERSONS) {
            due("turns(1, " + wrong + ")", x.turns(1, wrong), UNKNOWN);
            due("turns(6, " + wrong + ")", x.turns(6, wrong), UNKNOWN);
        }
        for (int k = 1; k <= 6; k++) {
            due("turns(" + k + ", 3)", x.turns(k, 3), 3);
        }
    }

    private static void firstAnswers() {
        check.sentence("from whom it takes; NONE: it passes (or there is nobody)");
        NeverHadBefore nobody = new NeverHadBefore();
        for (int k = 1; k <= 6; k++) {
            due("first(" + k + ") of nobody", nobody.first(k), NONE);
            due("first(" + k + ") of one alone", Check.fair("Pa000000").first(k), NONE);
            due("first(" + k + ") that passes", Check.fair("Pa900000Pb000000").first(k), NONE);
        }
        NeverHadBefore x = Check.fair("Pa012300Pb000000Pc000000Pd000000");
        due("first(1)", x.first(1), 3);
        x.value(0, 3, 0);
        due("first(1) by another value", x.first(1), 2);
        x.value(0, 2, 0);
        due("first(1) by another value still", x.first(1), 1);
        x.exchange(0, 1);
        due("first(1) behind that", x.first(1), NONE);
        x.wipe();
        x.fair();
        due("first(1) when nobody is left", x.first(1), NONE);
    }

    private static void firstRefused() {
        check.sentence("first: BAD: k");
        NeverHadBefore x = Check.fair("Pa090000Pb900000");
        NeverHadBefore nobody = new NeverHadBefore();
        for (int k : NO_TURNS) {
            due("first(" + k + ")", x.first(k), BAD);
            due("first(" + k + ") of nobody", nobody.first(k), BAD);
        }
        due("first(1)", x.first(1), 1);
        due("first(6)", x.first(6), NONE);
    }

    private static void noneIsMade() {
        check.sentence("rings, newcomers and turns make no EXCHANGE");
        NeverHadBefore x = Check.fair("Pa098700Pb908700Pc980700Pd987000");
        x.rings();
        x.ringAt(3);
        x.frees(5);
        x.turns(6, 2);
        x.first(5);
        for (int p = 0; p < 4; p++) {
            due("holds(" + p + ")", x.holds(p), p);
            due("had(" + p + ")", x.had(p), 1 << p);
        }
        due("about(0)", x.about(0), 4);
        due("about(3)", x.about(3), 0);
    }
}
