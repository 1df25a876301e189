/** A test for each sentence that names an edge of the text, of a fair, and of what is told of it (promises 1 to 10). */
public final class FairEdgesTest {
    private static final int NONE = -9, UNKNOWN = -1, BAD = -2, LATE = -3, FULL = -4;
    private static final String FOUR = "Pa000000Pb000000Pc000000Pd000000";
    // No fair is longer: who holds nothing may have had all six sorts.
    private static final String LONGEST = "P-000000abcdefP-111111abcdefP-222222abcdefP-333333abcdef";
    private static final Check check = new Check("FairEdgesTest");

    private static void due(String call, long got, long want) {
        check.due(call, got, want);
    }

    private static void dueFault(String text, int want) {
        due("fault() of " + text, Check.fault(text), want);
    }

    public static void main(String[] args) {
        termsOfPeople();
        termsOfSorts();
        termsOfText();
        termsOfHolding();
        termsOfWorth();
        termsOfHad();
        termsOfEmptyText();
        termsOfFirstFault();
        termsOfLengthSetAside();
        termsOfTheEnd();
        termsOfNoFault();
        termsOfHavingHad();
        newObject();
        writeCount();
        writeBytes();
        writeFull();
        wipe();
        fairStays();
        fairEmpties();
        fairOfFault();
        about();
        aboutAtMost();
        holds();
        had();
        worth();
        value();
        check.end();
    }

    private static void termsOfPeople() {
        check.sentence("PEOPLE are 0, 1, .. (4 at most)");
        NeverHadBefore x = Check.fair(FOUR);
        due("about(0)", x.about(0), 4);
        for (int i = 0; i < 4; i++) {
            due("holds(" + i + ")", x.holds(i), i);
        }
        due("holds(4)", x.holds(4), UNKNOWN);
        dueFault(FOUR, NONE);
        dueFault(FOUR + "P", 32);
        dueFault(FOUR + "Pa000000", 32);
        dueFault("Pa000000Pb000000Pc000000P", 25);
    }

    private static void termsOfSorts() {
        check.sentence("SORTS are 0 .. 5, told as a .. f");
        for (int s = 0; s < 6; s++) {
            char letter = (char) ('a' + s);
            NeverHadBefore x = Check.fair("P" + letter + "000000P-000000" + letter);
            due("holds(0) of " + letter, x.holds(0), s);
            due("had(1) of " + letter, x.had(1), 1 << s);
            due("worth(0, " + s + ")", x.worth(0, s), 0);
        }
        for (char wrong : new char[] {'`', 'g', 'A', 'F', '@', 'z', '0', '5', '6', ' ', 0, 255}) {
            dueFault("P" + wrong, 1);
            dueFault("P-000000" + wrong, 8);
        }
    }

    private static void termsOfText() {
        check.sentence("THE TEXT is bytes (64 at most)");
        NeverHadBefore x = new NeverHadBefore();
        for (int i = 1; i <= 64; i++) {
            due("write(1, 255)", x.write(1, 255), i);
        }
        due("write(1, 255) of a 65th", x.write(1, 255), FULL);
        due("about(7)", x.about(7), 64);
        for (int b = 0; b < 256; b++) {
            due("fault() of a byte " + b, Check.fault("" + (char) b), b == 'P' ? 1 : 0);
        }
    }

    private static void termsOfHolding() {
        check.sentence("what one HOLDS (a SORT, or - for nothing)");
        NeverHadBefore x = Check.fair("P-123456Pf000000");
        due("holds(0)", x.holds(0), NONE);
        due("holds(1)", x.holds(1), 5);
        for (int b = 0; b < 256; b++) {
            boolean right = b == '-' || (b >= 'a' && b <= 'f');
            dueFault("P" + (char) b, right ? 2 : 1);
        }
        dueFault("Pa-", 2);
        dueFault("Pa000000-", 8);
        dueFault("P-000000-", 8);
    }

    private static void termsOfWorth() {
        check.sentence("of each SORT, 0 first, what it is WORTH to one (six figures)");
        NeverHadBefore x = Check.fair("P-012345Pa987650");
        for (int s = 0; s < 6; s++) {
            due("worth(0, " + s + ")", x.worth(0, s), s);
            due("worth(1, " + s + ")", x.worth(1, s), s < 5 ? 9 - s : 0);
        }
        for (int place = 0; place < 6; place++) {
            String before = "Pa" + "090909".substring(0, place);
            for (char wrong : new char[] {'/', ':', '-', 'a', 'b', 'P', 0, 255}) {
                dueFault(before + wrong, 2 + place);
            }
        }
        dueFault("Pa09090", 7);
        dueFault("Pa09090b", 7);
        dueFault("Pa0909099", 8);
    }

    private static void termsOfHad() {
        check.sentence("then SORTS that one has HAD besides (none twice, not what one HOLDS)");
        dueFault("Pa000000b", NONE);
        dueFault("Pa000000bb", 9);
        dueFault("Pa000000bcdefb", 13);
        dueFault("Pa000000a", 8);
        dueFault("Pa000000fedcba", 13);
        dueFault("Pf000000edcba", NONE);
        dueFault("Pf000000abcdef", 13);
        dueFault("P-000000abcdef", NONE);
        dueFault("P-000000abcdeff", 14);
        dueFault("P-000000aa", 9);
        // The next one's list is its own.
        dueFault("Pa000000bPa000000b", NONE);
        dueFault("Pb000000Pa000000bP-000000ab", NONE);
        dueFault("Pb000000Pa000000bP-000000abb", 27);
    }

    private static void termsOfEmptyText() {
        check.sentence("An empty TEXT is a FAIR of nobody");
        NeverHadBefore x = new NeverHadBefore();
        due("fault()", x.fault(), NONE);
        due("fair()", x.fair(), 0);
        Check.anew(x, FOUR);
        x.wipe();
        due("fault() when wiped", x.fault(), NONE);
        due("fair() when wiped", x.fair(), 0);
        due("about(0)", x.about(0), 0);
        due("about(1)", x.about(1), 0);
        due("holds(0)", x.holds(0), UNKNOWN);
    }

    private static void termsOfFirstFault() {
        check.sentence("the place (from 0) of the first byte by which THE TEXT can be no FAIR, whatever came behind it");
        dueFault("x", 0);
        dueFault("xPa000000", 0);
        dueFault("Px000000Pa000000", 1);
        dueFault("Pa00x000Pg", 4);
        dueFault("Pa00x", 4);
        dueFault("Pa000000PP", 9);
        dueFault("Pa000000aa", 8);
        dueFault("Pa000000Pb000000Pc000000Pd00000x", 31);
        NeverHadBefore x = new NeverHadBefore();
        Check.write(x, "Pa0000000");
        due("fault()", x.fault(), 8);
        Check.write(x, "Pb000000");
        due("fault() with more behind it", x.fault(), 8);
    }

    private static void termsOfLengthSetAside() {
        check.sentence("its length set aside");
        dueFault(LONGEST, NONE);
        for (int b = 0; b < 256; b++) {
            dueFault(LONGEST + (char) b, 56);
        }
        dueFault(LONGEST + "PPPPPPPP", 56);
        // What is too short has no byte by which it can be no fair.
        for (int length = 0; length <= LONGEST.length(); length++) {
            int inPerson = length % 14;
            boolean whole = length == 0 || inPerson == 0 || inPerson >= 8;
            dueFault(LONGEST.substring(0, length), whole ? NONE : length);
        }
    }

    private static void termsOfTheEnd() {
        check.sentence("its length, if it is only not at its end");
        String text = "Pa123456Pb123456";
        for (int length = 1; length < 8; length++) {
            dueFault(text.substring(0, length), length);
            dueFault(text.substring(0, 8 + length), 8 + length);
        }
        dueFault("Pa123456cdP", 11);
        // A byte that can be in no fair is told before that.
        dueFault("Pa12345x", 7);
    }

    private static void termsOfNoFault() {
        check.sentence("NONE: none");
        dueFault("Pa123456", NONE);
        dueFault("Pa123456b", NONE);
        dueFault("Pa123456Pb123456", NONE);
        dueFault("P-999999P-000000", NONE);
        dueFault("Pa000000Pa000000Pa000000Pa000000", NONE);
    }

    private static void termsOfHavingHad() {
        check.sentence("One has HAD what one HOLDS");
        NeverHadBefore x = Check.fair("Pa000000P-000000Pf000000e");
        due("had(0)", x.had(0), Check.bits("a"));
        due("had(1): it holds nothing", x.had(1), 0);
        due("had(2)", x.had(2), Check.bits("ef"));
    }

    private static void newObject() {
        check.sentence("At first there is nobody");
        NeverHadBefore x = new NeverHadBefore();
        for (int what = 0; what <= 7; what++) {
            due("about(" + what + ")", x.about(what), 0);
        }
        due("holds(0)", x.holds(0), UNKNOWN);
        due("had(0)", x.had(0), UNKNOWN);
        due("worth(0, 0)", x.worth(0, 0), UNKNOWN);
        due("value(0, 0, 0)", x.value(0, 0, 0), UNKNOWN);
        due("may(0, 1)", x.may(0, 1), UNKNOWN);
        due("exchange(0, 1)", x.exchange(0, 1), UNKNOWN);
        due("exchange(0, 0)", x.exchange(0, 0), UNKNOWN);
        due("sea(0)", x.sea(0), UNKNOWN);
        due("want(0, 0)", x.want(0, 0), UNKNOWN);
        due("want(0, NONE)", x.want(0, NONE), UNKNOWN);
        due("mayComeTo(0)", x.mayComeTo(0), UNKNOWN);
        due("begin(0)", x.begin(0), UNKNOWN);
        due("ringAt(0)", x.ringAt(0), UNKNOWN);
        due("turns(1, 0)", x.turns(1, 0), UNKNOWN);
        due("rings()", x.rings(), 0);
        due("frees(0)", x.frees(0), 0);
        due("first(6)", x.first(6), NONE);
        due("fault()", x.fault(), NONE);
    }

    private static void writeCount() {
        check.sentence("n bytes (1 .. 8) of v .. BAD");
        NeverHadBefore x = new NeverHadBefore();
        for (int n : new int[] {0, 9, -1, 16, 64, 65, -8, 256, 257, Integer.MAX_VALUE, Integer.MIN_VALUE}) {
            due("write(" + n + ", P)", x.write(n, 'P'), BAD);
        }
        due("about(7): nothing came", x.about(7), 0);
        int length = 0;
        for (int n = 1; n <= 8; n++) {
            length += n;
            due("write(" + n + ", 0)", x.write(n, 0), length);
        }
        due("wipe()", x.wipe(), 36);
    }

    private static void writeBytes() {
        check.sentence("the lowest n, the highest of these first, come behind THE TEXT");
        NeverHadBefore x = new NeverHadBefore();
        due("write(2, xxxxxxPb)", x.write(2, 0x7878787878785062L), 2);
        due("write(3, xxxxx123)", x.write(3, 0x7878787878313233L), 5);
        due("write(3, xxxxx456)", x.write(3, 0x7878787878343536L), 8);
        due("write(8, Pc987654)", x.write(8, 0x5063393837363534L), 16);
        due("fair()", x.fair(), 2);
        due("holds(0)", x.holds(0), 1);
        due("holds(1)", x.holds(1), 2);
        for (int s = 0; s < 6; s++) {
            due("worth(0, " + s + ")", x.worth(0, s), 1 + s);
            due("worth(1, " + s + ")", x.worth(1, s), 9 - s);
        }
        x.wipe();
        due("write(1, -176): its lowest byte is a P", x.write(1, -176), 1);
        due("fault()", x.fault(), 1);
        due("write(4, all ones)", x.write(4, -1), 5);
        due("fault()", x.fault(), 1);
        x.wipe();
        due("write(1, least of all): its lowest byte is 0", x.write(1, Long.MIN_VALUE), 1);
        due("fault()", x.fault(), 0);
        x.wipe();
        due("write(8, least of all)", x.write(8, Long.MIN_VALUE), 8);
        due("fault()", x.fault(), 0);
        x.wipe();
        due("write(1, 336): a P with a bit above", x.write(1, 336), 1);
        due("fault()", x.fault(), 1);
        due("write(7, xa000000)", x.write(7, 0x7861303030303030L), 8);
        due("fault()", x.fault(), NONE);
    }

    private static void writeFull() {
        check.sentence("FULL: it would be longer than 64 (nothing comes)");
        for (int n = 1; n <= 8; n++) {
            NeverHadBefore x = new NeverHadBefore();
            int length = 64 - n + 1;
            for (int i = 0; i < length; i++) {
                x.write(1, 0);
            }
            due("write(" + n + ", 0) up to 65", x.write(n, 0), FULL);
            due("about(7): nothing came", x.about(7), length);
            if (n > 1) {
                due("write(" + (n - 1) + ", 0) up to 64", x.write(n - 1, 0), 64);
            }
            due("write(" + n + ", 0) when full", x.write(n, 0), FULL);
            due("write(0, 0) when full", x.write(0, 0), BAD);
            due("write(9, 0) when full", x.write(9, 0), BAD);
            due("about(7) when full", x.about(7), 64);
        }
        // Not even the bytes for which there is room: a fair that misses one stays without it.
        NeverHadBefore x = new NeverHadBefore();
        Check.write(x, LONGEST);
        x.write(7, 0);
        due("write(2, aa) up to 65", x.write(2, 0x6161), FULL);
        due("write(1, a) up to 64", x.write(1, 0x61), 64);
    }

    private static void wipe() {
        check.sentence("THE TEXT is empty: how long it was");
        NeverHadBefore x = new NeverHadBefore();
        due("wipe() of nothing", x.wipe(), 0);
        Check.write(x, "P");
        due("wipe() of one", x.wipe(), 1);
        for (int i = 0; i < 8; i++) {
            x.write(8, -1);
        }
        due("wipe() of 64", x.wipe(), 64);
        due("wipe() again", x.wipe(), 0);
        due("fault()", x.fault(), NONE);
        due("write(8, 0) behind it", x.write(8, 0), 8);
        Check.anew(x, FOUR);
        x.wipe();
        due("about(0): the fair stays", x.about(0), 4);
    }

    private static void fairStays() {
        check.sentence("THE TEXT itself stays .. SIGHTS stay");
        NeverHadBefore x = new NeverHadBefore();
        x.sight(3, true);
        Check.write(x, FOUR);
        due("fair()", x.fair(), 4);
        due("about(7)", x.about(7), 32);
        due("about(5)", x.about(5), 1);
        due("listed(3)", x.listed(3), 0);
        x.exchange(0, 1);
        due("fair() once more", x.fair(), 4);
        due("holds(0) is as told", x.holds(0), 0);
        due("had(0) is as told", x.had(0), 1);
        due("write(1, e) behind it", x.write(1, 'e'), 33);
        due("fair() of more", x.fair(), 4);
        due("had(3)", x.had(3), Check.bits("de"));
    }

    private static void fairEmpties() {
        check.sentence("no ACTS, no WANTS; what was kept is gone");
        NeverHadBefore x = Check.fair(FOUR);
        x.exchange(0, 1);
        x.exchange(2, 3);
        for (int p = 0; p < 4; p++) {
            x.want(p, p);
        }
        x.keep(0);
        x.keep(1);
        due("fair()", x.fair(), 4);
        due("about(3)", x.about(3), 0);
        due("undo()", x.undo(), LATE);
        due("about(4)", x.about(4), 0);
        for (int p = 0; p < 4; p++) {
            due("want(" + p + ", NONE)", x.want(p, NONE), NONE);
        }
        due("again(0)", x.again(0), LATE);
        due("again(1)", x.again(1), LATE);
        x.want(3, 2);
        x.keep(1);
        x.wipe();
        due("fair() of nobody", x.fair(), 0);
        due("again(1) of nobody", x.again(1), LATE);
        Check.anew(x, FOUR);
        due("about(4): nobody's wants came back", x.about(4), 0);
        due("fewest()", x.fewest(), 0);
    }

    private static void fairOfFault() {
        check.sentence("LATE: a FAULT");
        NeverHadBefore x = Check.fair("Pa100000Pb200000");
        x.exchange(0, 1);
        x.want(1, 4);
        x.keep(1);
        for (String text : new String[] {"P", "x", "Pc33333", "Pc333333c", "Pc333333x", "Pc333333Pd444444P"}) {
            x.wipe();
            Check.write(x, text);
            due("fair() of " + text, x.fair(), LATE);
            due("about(0)", x.about(0), 2);
            due("about(7)", x.about(7), text.length());
            due("holds(0)", x.holds(0), 1);
            due("worth(0, 0)", x.worth(0, 0), 1);
            due("about(3)", x.about(3), 1);
            due("about(4)", x.about(4), 1);
        }
        due("again(1): it is kept still", x.again(1), 2);
    }

    private static void about() {
        check.sentence("about: what = 0 .. 7; BAD");
        NeverHadBefore x = Check.fair("Pa100000bP-999999aPb020000Pb000000a");
        x.want(2, 5);
        x.want(1, 0);
        x.sight(4, false);
        due("about(0)", x.about(0), 4);
        due("about(1)", x.about(1), 3);
        due("about(2): a is new to 2, b is new to 1", x.about(2), 0);
        due("about(3)", x.about(3), 0);
        due("about(4)", x.about(4), 2);
        due("about(5)", x.about(5), 1);
        due("about(6)", x.about(6), 3);
        due("about(7)", x.about(7), 35);
        for (int what : new int[] {-1, 8, 9, -8, 16, 32, 256, Integer.MAX_VALUE, Integer.MIN_VALUE}) {
            due("about(" + what + ")", x.about(what), BAD);
        }
    }

    private static void aboutAtMost() {
        check.sentence("about: none and all of them");
        NeverHadBefore x = Check.fair("Pa999999bcdPb999999acdPc999999abdPd999999abc");
        due("about(0)", x.about(0), 4);
        due("about(1)", x.about(1), 4);
        due("about(2)", x.about(2), 4);
        due("about(6)", x.about(6), 36);
        for (int p = 0; p < 4; p++) {
            x.want(p, p);
            due("about(4)", x.about(4), p + 1);
            x.sea(p);
            due("about(1)", x.about(1), 3 - p);
            due("about(2)", x.about(2), 3 - p);
            due("about(3)", x.about(3), p + 1);
            due("about(6)", x.about(6), 27 - 9 * p);
        }
        for (int i = 1; i <= 8; i++) {
            x.sight(0, false);
            due("about(5)", x.about(5), i);
        }
        for (int p = 0; p < 4; p++) {
            x.want(p, NONE);
            due("about(4)", x.about(4), 3 - p);
        }
    }

    private static void holds() {
        check.sentence("What a PERSON HOLDS; NONE. UNKNOWN");
        NeverHadBefore x = Check.fair("P-000000Pa000000Pf000000");
        due("holds(0)", x.holds(0), NONE);
        due("holds(1)", x.holds(1), 0);
        due("holds(2)", x.holds(2), 5);
        due("holds(3): there are three", x.holds(3), UNKNOWN);
        due("holds(-1)", x.holds(-1), UNKNOWN);
    }

    private static void had() {
        check.sentence("What it has HAD, as bits. UNKNOWN");
        NeverHadBefore x = Check.fair("P-000000P-000000abcdefPf000000");
        due("had(0)", x.had(0), 0);
        due("had(1)", x.had(1), 63);
        due("had(2)", x.had(2), 32);
        due("had(3): there are three", x.had(3), UNKNOWN);
        due("had(-1)", x.had(-1), UNKNOWN);
    }

    private static void worth() {
        check.sentence("What a SORT is WORTH to it. UNKNOWN: person, sort");
        NeverHadBefore x = Check.fair("P-900009");
        due("worth(0, 0)", x.worth(0, 0), 9);
        due("worth(0, 1)", x.worth(0, 1), 0);
        due("worth(0, 5)", x.worth(0, 5), 9);
        due("worth(0, 6)", x.worth(0, 6), UNKNOWN);
        due("worth(0, -1)", x.worth(0, -1), UNKNOWN);
        due("worth(1, 0): there is one", x.worth(1, 0), UNKNOWN);
        due("worth(-1, 5)", x.worth(-1, 5), UNKNOWN);
        due("worth(-1, 6): no place of another one", x.worth(-1, 6), UNKNOWN);
    }

    private static void value() {
        check.sentence("That is otherwise: what it was. UNKNOWN; BAD: v (0 .. 9)");
        NeverHadBefore x = Check.fair("P-000000P-111111");
        due("value(1, 5, 9)", x.value(1, 5, 9), 1);
        due("value(1, 5, 0)", x.value(1, 5, 0), 9);
        due("value(1, 5, 0) again", x.value(1, 5, 0), 0);
        due("value(0, 0, 9)", x.value(0, 0, 9), 0);
        for (int v : new int[] {-1, 10, 11, -9, 48, 57, 256, Integer.MAX_VALUE, Integer.MIN_VALUE}) {
            due("value(0, 0, " + v + ")", x.value(0, 0, v), BAD);
            due("value(2, 0, " + v + ")", x.value(2, 0, v), UNKNOWN);
            due("value(0, 6, " + v + ")", x.value(0, 6, v), UNKNOWN);
        }
        due("value(2, 0, 1)", x.value(2, 0, 1), UNKNOWN);
        due("value(-1, 0, 1)", x.value(-1, 0, 1), UNKNOWN);
        due("value(0, 6, 1)", x.value(0, 6, 1), UNKNOWN);
        due("value(0, -1, 1)", x.value(0, -1, 1), UNKNOWN);
        for (int s = 0; s < 6; s++) {
            due("worth(0, " + s + ")", x.worth(0, s), s == 0 ? 9 : 0);
            due("worth(1, " + s + ")", x.worth(1, s), s == 5 ? 0 : 1);
        }
        due("about(3): that is no act", x.about(3), 0);
    }
}
