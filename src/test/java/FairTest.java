/** Promises 1 to 10: the text, the fair, and what is told of it. */
public final class FairTest {
    private static final int NONE = -9, UNKNOWN = -1, BAD = -2, LATE = -3, FULL = -4;
    private static final Check check = new Check("FairTest");

    private static void due(String call, long got, long want) {
        check.due(call, got, want);
    }

    public static void main(String[] args) {
        newObject();
        write();
        wipe();
        fault();
        faultOfLists();
        fair();
        about();
        holdsAndHad();
        worthAndValue();
        check.end();
    }

    private static void newObject() {
        NeverHadBefore x = new NeverHadBefore();
        for (int what = 0; what <= 7; what++) {
            due("new: about(" + what + ")", x.about(what), 0);
        }
        due("new: holds(0)", x.holds(0), UNKNOWN);
        due("new: undo()", x.undo(), LATE);
        due("new: again(0)", x.again(0), LATE);
        due("new: again(1)", x.again(1), LATE);
        due("new: runs()", x.runs(), 1);
        due("new: fewest()", x.fewest(), 0);
        due("new: lists()", x.lists(), 64);
    }

    private static void write() {
        NeverHadBefore x = new NeverHadBefore();
        due("write(0, 0)", x.write(0, 0), BAD);
        due("write(-1, 0)", x.write(-1, 0), BAD);
        due("write(9, 0)", x.write(9, 0), BAD);
        due("about(7) of nothing", x.about(7), 0);
        // Of these bytes the lowest eight come, the highest of them first: P a 1 2 3 4 5 6.
        due("write(8, Pa123456)", x.write(8, 0x5061313233343536L), 8);
        due("write(1, ..b): only the lowest byte", x.write(1, 0x7777777777777762L), 9);
        due("fair()", x.fair(), 1);
        due("worth(0, 0)", x.worth(0, 0), 1);
        due("worth(0, 5)", x.worth(0, 5), 6);
        due("had(0)", x.had(0), 3);
        due("write(8, negative)", x.write(8, -1L), 17);
        due("fault() of a byte 255", x.fault(), 9);
        for (int i = 3; i <= 7; i++) {
            x.write(8, 0);
        }
        due("about(7)", x.about(7), 57);
        due("write(8, 0) over 64", x.write(8, 0), FULL);
        due("write(9, 0) when full", x.write(9, 0), BAD);
        due("about(7): nothing came", x.about(7), 57);
        due("write(7, 0) up to 64", x.write(7, 0), 64);
        due("write(1, 0) over 64", x.write(1, 0), FULL);
        due("wipe()", x.wipe(), 64);
    }

    private static void wipe() {
        NeverHadBefore x = new NeverHadBefore();
        due("wipe() of nothing", x.wipe(), 0);
        Check.write(x, "Pa000000");
        x.fair();
        due("wipe()", x.wipe(), 8);
        due("about(7)", x.about(7), 0);
        due("about(0): the fair stays", x.about(0), 1);
        due("wipe() again", x.wipe(), 0);
        due("fault()", x.fault(), NONE);
    }

    private static void fault() {
        due("fault of nothing", Check.fault(""), NONE);
        due("fault of P", Check.fault("P"), 1);
        due("fault of p", Check.fault("p"), 0);
        due("fault of a", Check.fault("a"), 0);
        due("fault of Pg", Check.fault("Pg"), 1);
        due("fault of P`", Check.fault("P`"), 1);
        due("fault of PA", Check.fault("PA"), 1);
        due("fault of PP", Check.fault("PP"), 1);
        due("fault of Pf", Check.fault("Pf"), 2);
        due("fault of P-", Check.fault("P-"), 2);
        due("fault of Pa/", Check.fault("Pa/"), 2);
        due("fault of Pa:", Check.fault("Pa:"), 2);
        due("fault of Pa09", Check.fault("Pa09"), 4);
        due("fault of Pa00000b", Check.fault("Pa00000b"), 7);
        due("fault of Pa00000", Check.fault("Pa00000"), 7);
        due("fault of Pa000000", Check.fault("Pa000000"), NONE);
        due("fault of Pa0000000", Check.fault("Pa0000000"), 8);
        due("fault of Pa000000-", Check.fault("Pa000000-"), 8);
        due("fault of Pa000000g", Check.fault("Pa000000g"), 8);
        due("fault of a byte 0", Check.fault("\0"), 0);
        due("fault of a byte 0xD0", Check.fault("Pa000000\u00d0"), 8);
        String four = "Pa000000Pb000000Pc000000Pd000000";
        due("fault of four", Check.fault(four), NONE);
        due("fault of four and P", Check.fault(four + "P"), 32);
        due("fault of four and aP", Check.fault(four + "aP"), 33);
        due("fault of four and a", Check.fault(four + "a"), NONE);
        due("fault of the first of two", Check.fault("PxPa"), 1);
        StringBuilder full = new StringBuilder();
        for (int i = 0; i < 64; i++) {
            full.append('P');
        }
        due("fault of 64 P", Check.fault(full.toString()), 1);
    }

    private static void faultOfLists() {
        due("fault: what one holds", Check.fault("Pa000000a"), 8);
        due("fault: what one holds, later", Check.fault("Pa000000bca"), 10);
        due("fault: twice", Check.fault("Pa000000bb"), 9);
        due("fault: twice, not beside", Check.fault("Pa000000bcdb"), 11);
        due("fault: any order", Check.fault("Pa000000fdbec"), NONE);
        due("fault: six of one that holds nothing", Check.fault("P-000000fedcba"), NONE);
        due("fault: a seventh", Check.fault("P-000000fedcbaa"), 14);
        due("fault: the lists of two are two", Check.fault("Pa000000bPa000000b"), NONE);
        due("fault: of the second", Check.fault("Pa000000bPb000000b"), 17);
        due("fault: longest fair",
            Check.fault("P-000000abcdefP-000000abcdefP-000000abcdefP-000000abcdef"), NONE);
    }

    private static void fair() {
        NeverHadBefore x = Check.fair("Pa123456Pb222222");
        due("about(7): the text stays", x.about(7), 16);
        x.exchange(0, 1);
        x.want(0, 3);
        x.sight(2, true);
        x.keep(0);
        x.keep(1);
        x.write(1, 'P');
        due("fair() of a fault", x.fair(), LATE);
        due("about(3) behind it", x.about(3), 1);
        due("about(4) behind it", x.about(4), 1);
        due("holds(0) behind it", x.holds(0), 1);
        due("again(1) behind it", x.again(1), 2);
        x.undo();
        x.wipe();
        Check.write(x, "Pa000000Pb000000");
        x.fair();
        x.exchange(0, 1);
        x.want(0, 3);
        x.keep(0);
        x.keep(1);
        x.wipe();
        Check.write(x, "Pc987654Pd000000P-111111ef");
        due("fair() anew", x.fair(), 3);
        due("about(3): no acts", x.about(3), 0);
        due("about(4): no wants", x.about(4), 0);
        due("about(5): sights stay", x.about(5), 1);
        due("about(7)", x.about(7), 26);
        due("again(0): gone", x.again(0), LATE);
        due("again(1): gone", x.again(1), LATE);
        due("undo(): gone", x.undo(), LATE);
        due("holds(0)", x.holds(0), 2);
        due("worth(0, 0)", x.worth(0, 0), 9);
        due("holds(2)", x.holds(2), NONE);
        due("had(2)", x.had(2), 48);
        due("want(0, NONE): wanted nothing", x.want(0, NONE), NONE);
        x.wipe();
        due("fair() of nobody", x.fair(), 0);
        due("holds(0) of nobody", x.holds(0), UNKNOWN);
        due("about(6) of nobody", x.about(6), 0);
        Check.anew(x, "Pf000000");
        due("had(0) of a new one", x.had(0), 32);
        x.value(0, 5, 8);
        due("fair() from the same text", x.fair(), 1);
        due("worth(0, 5) is as told again", x.worth(0, 5), 0);
    }

    private static void about() {
        NeverHadBefore x = Check.fair("Pa123456bPb111111aP-999999abPc004000");
        due("about(0)", x.about(0), 4);
        due("about(1)", x.about(1), 3);
        due("about(2): c is new to three, a and b to person 3", x.about(2), 0);
        due("about(6)", x.about(6), 1 + 1 + 4);
        due("about(8)", x.about(8), BAD);
        due("about(-1)", x.about(-1), BAD);
        Check.anew(x, "Pa700000bPb050000aP-999999ab");
        due("about(2): both are dead", x.about(2), 2);
        Check.anew(x, "Pa000000P-000000");
        due("about(2): new to one that holds nothing", x.about(2), 0);
        Check.anew(x, "Pa000000Pb000000a");
        due("about(2): a is dead, b is new to 0", x.about(2), 1);
        Check.anew(x, "Pa000000Pa000000");
        due("about(2): two of a sort", x.about(2), 2);
        Check.anew(x, "Pa000000");
        due("about(2): one alone", x.about(2), 1);
        Check.anew(x, "P-000000");
        due("about(2): nothing is not dead", x.about(2), 0);
        due("about(1): nothing", x.about(1), 0);
        Check.anew(x, "Pa000000Pb000000");
        x.want(0, 1);
        x.want(1, 5);
        due("about(4)", x.about(4), 2);
        x.want(0, NONE);
        due("about(4) less", x.about(4), 1);
        x.exchange(0, 1);
        due("about(3)", x.about(3), 1);
        x.sight(0, true);
        x.sight(0, false);
        due("about(5)", x.about(5), 2);
    }

    private static void holdsAndHad() {
        NeverHadBefore x = Check.fair("Pa000000cfP-000000eP-000000Pf000000");
        due("holds(0)", x.holds(0), 0);
        due("holds(1)", x.holds(1), NONE);
        due("holds(3)", x.holds(3), 5);
        due("had(0)", x.had(0), Check.bits("acf"));
        due("had(1)", x.had(1), Check.bits("e"));
        due("had(2)", x.had(2), 0);
        due("had(3)", x.had(3), 32);
        due("holds(4)", x.holds(4), UNKNOWN);
        due("holds(-1)", x.holds(-1), UNKNOWN);
        due("had(4)", x.had(4), UNKNOWN);
        due("had(-1)", x.had(-1), UNKNOWN);
        due("holds(max)", x.holds(Integer.MAX_VALUE), UNKNOWN);
        due("had(min)", x.had(Integer.MIN_VALUE), UNKNOWN);
    }

    private static void worthAndValue() {
        NeverHadBefore x = Check.fair("Pa012345Pb678909");
        for (int s = 0; s < 6; s++) {
            due("worth(0, " + s + ")", x.worth(0, s), s);
            due("worth(1, " + s + ")", x.worth(1, s), s < 4 ? 6 + s : s == 4 ? 0 : 9);
        }
        due("worth(2, 0)", x.worth(2, 0), UNKNOWN);
        due("worth(-1, 0)", x.worth(-1, 0), UNKNOWN);
        due("worth(0, 6)", x.worth(0, 6), UNKNOWN);
        due("worth(0, -1)", x.worth(0, -1), UNKNOWN);
        due("worth(0, NONE)", x.worth(0, NONE), UNKNOWN);
        due("value(0, 0, 9)", x.value(0, 0, 9), 0);
        due("value(0, 0, 0)", x.value(0, 0, 0), 9);
        due("value(1, 5, 2)", x.value(1, 5, 2), 9);
        due("worth(1, 5)", x.worth(1, 5), 2);
        due("worth(1, 4) as before", x.worth(1, 4), 0);
        due("value(0, 1, 10)", x.value(0, 1, 10), BAD);
        due("value(0, 1, -1)", x.value(0, 1, -1), BAD);
        due("worth(0, 1) as before", x.worth(0, 1), 1);
        due("value(2, 0, 10): the person first", x.value(2, 0, 10), UNKNOWN);
        due("value(0, 6, 10): the sort first", x.value(0, 6, 10), UNKNOWN);
        due("value(0, -1, 1)", x.value(0, -1, 1), UNKNOWN);
        due("about(3): that is no act", x.about(3), 0);
        x.value(0, 0, 5);
        due("about(6) by the new worths", x.about(6), 5 + 7);
    }
}
