/** Promises 16 to 18: the longest run, the shortest, how many there are. */
public final class RunsTest {
    private static final Check check = new Check("RunsTest");

    private static void dueRuns(String text, int longest, int shortest, int runs) {
        NeverHadBefore x = Check.fair(text);
        check.due("longest() of " + text, x.longest(), longest);
        check.due("shortest() of " + text, x.shortest(), shortest);
        check.due("runs() of " + text, x.runs(), runs);
    }

    public static void main(String[] args) {
        dueRuns("", 0, 0, 1);
        dueRuns("Pa000000", 0, 0, 1);
        dueRuns("P-000000P-000000", 0, 0, 1);
        dueRuns("Pa000000Pa000000", 0, 0, 1);
        dueRuns("Pa000000Pb000000", 1, 1, 1);
        dueRuns("Pa000000Pb000000a", 0, 0, 1);
        dueRuns("Pa000000Pb000000P-000000", 1, 1, 1);
        // Each of the three ways to begin leaves two that may go on, and then none.
        dueRuns("Pa000000Pb000000Pc000000", 2, 2, 6);
        // 01 and 23, in either order.
        dueRuns("Pa000000cdPb000000cdPc000000abPd000000ab", 2, 2, 2);
        // 01, then 02 (b for c); or 02 at once, then 01 (c for b): and 12 never, c is not new to 1.
        dueRuns("Pa000000Pb000000cPc000000b", 1, 1, 2);
        // Only 01 may be, then 0 has had all, and 1 and 2 may: a for c.
        dueRuns("Pa000000cPb000000Pc000000b", 2, 2, 1);
        // 01, then 12; or 12, then 02: what no one could take before came round.
        dueRuns("Pa000000cPb000000Pc000000", 2, 2, 2);
        // The most that four may make: each comes to the three other things.
        dueRuns("Pa000000Pb000000Pc000000Pd000000", 6, 5, 144);
        goesOnFromNow();
        leavesAllAsItWas();
        check.end();
    }

    private static void goesOnFromNow() {
        NeverHadBefore x = Check.fair("Pa000000Pb000000Pc000000");
        x.exchange(0, 1);
        check.due("longest() behind one exchange", x.longest(), 1);
        check.due("runs() behind one exchange", x.runs(), 2);
        x.exchange(0, 2);
        check.due("shortest() behind all", x.shortest(), 0);
        check.due("runs() behind all", x.runs(), 1);
        x.undo();
        x.undo();
        check.due("runs() when all is undone", x.runs(), 6);
    }

    private static void leavesAllAsItWas() {
        NeverHadBefore x = Check.fair("Pa000000Pb000000Pc000000Pd000000");
        x.longest();
        x.shortest();
        x.runs();
        for (int i = 0; i < 4; i++) {
            check.due("holds(" + i + ") behind the walks", x.holds(i), i);
            check.due("had(" + i + ") behind the walks", x.had(i), 1 << i);
        }
        check.due("about(3) behind the walks", x.about(3), 0);
    }
}
