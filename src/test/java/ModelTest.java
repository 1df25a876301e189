import java.util.Random;

/** Every call, in long rows of all sorts, answers as the model does. */
public final class ModelTest {
    private static final Check check = new Check("ModelTest");
    private static final int OBJECTS = 6000;
    // What an object answers behind its 512th call is free, and a step makes fewer than 90.
    private static final int CALLS = 420;
    private static final String SIGNS = "P-abcdefg0123456789Pabc\0\u00ff";

    private final Random random;
    private final int seed;
    private final NeverHadBefore x = new NeverHadBefore();
    private final Model m = new Model();
    private int calls = 0;

    private ModelTest(int seed) {
        this.seed = seed;
        random = new Random(seed);
    }

    public static void main(String[] args) {
        for (int seed = 0; seed < OBJECTS; seed++) {
            ModelTest run = new ModelTest(seed);
            for (int i = 0; run.calls < CALLS; i++) {
                run.step(i);
            }
        }
        check.end();
    }

    private void due(int at, String call, long got, long want) {
        calls++;
        check.due("seed " + seed + ", step " + at + ": " + call, got, want);
    }

    private int any(int bound) {
        return random.nextInt(bound);
    }

    private int person() {
        return any(30) == 0 ? any(9) - 3 : any(4);
    }

    private int sort() {
        return any(30) == 0 ? any(18) - 10 : any(6);
    }

    private int turns() {
        return any(20) == 0 ? any(10) - 1 : 1 + any(6);
    }

    private int slot() {
        return any(10) == 0 ? any(5) - 1 : any(2);
    }

    private int told(int n) {
        int told = 0;
        for (int i = 0; i < n; i++) {
            told = told * 100 + 10 * any(4) + any(4);
        }
        return any(20) == 0 ? random.nextInt() >> any(31) : told;
    }

    private String someFair() {
        StringBuilder b = new StringBuilder();
        int people = any(4) == 0 ? any(5) : 3 + any(2);
        boolean alike = any(2) == 0;
        int lists = 1 + any(6);
        for (int p = 0; p < people; p++) {
            int thing = alike ? p : any(6);
            boolean nothing = any(12) == 0;
            b.append('P').append(nothing ? '-' : (char) ('a' + thing));
            int most = any(3) == 0 ? 2 : 10;
            for (int s = 0; s < 6; s++) {
                b.append(any(most));
            }
            for (int s = 5; s >= 0; s--) {
                if ((nothing || s != thing) && any(lists) == 0 && any(2) == 0) {
                    b.append((char) ('a' + s));
                }
            }
        }
        return b.toString();
    }

    private void writeOne(int at, int n, long v) {
        due(at, "write(" + n + ", " + v + ")", x.write(n, v), m.write(n, v));
    }

    private void writeText(int at, String text) {
        due(at, "wipe()", x.wipe(), m.wipe());
        for (int i = 0; i < text.length(); ) {
            int n = Math.min(1 + any(8), text.length() - i);
            long v = random.nextLong();
            for (int j = 0; j < n; j++) {
                v = v << 8 | text.charAt(i + j);
            }
            writeOne(at, n, v);
            i += n;
        }
    }

    private String spoiled(String text) {
        StringBuilder b = new StringBuilder(text);
        for (int i = any(3); i > 0 && b.length() > 0; i--) {
            int place = any(b.length());
            char sign = SIGNS.charAt(any(SIGNS.length()));
            switch (any(4)) {
                case 0 -> b.setCharAt(place, sign);
                case 1 -> b.insert(place, sign);
                case 2 -> b.deleteCharAt(place);
                default -> b.setLength(place);
            }
        }
        return b.length() > 64 ? b.substring(0, 64) : b.toString();
    }

    private void step(int at) {
        if (at == 0 || any(40) == 0) {
            writeText(at, someFair());
            due(at, "fair()", x.fair(), m.fair());
            return;
        }
        switch (any(12)) {
            case 0 -> text(at);
            case 1, 2, 3, 4 -> act(at);
            case 5, 6 -> tell(at);
            case 7 -> tellRuns(at);
            case 8 -> wants(at);
            case 9 -> ringsAndTurns(at);
            case 10 -> hidden(at);
            default -> slots(at);
        }
        if (any(3) == 0) {
            look(at);
        }
    }

    private void text(int at) {
        switch (any(5)) {
            case 0 -> writeOne(at, any(11) - 1, random.nextLong());
            case 1 -> due(at, "wipe()", x.wipe(), m.wipe());
            case 2 -> due(at, "fair()", x.fair(), m.fair());
            default -> writeText(at, spoiled(someFair()));
        }
        due(at, "fault()", x.fault(), m.fault());
    }

    private void act(int at) {
        int p = person();
        int q = person();
        int s = sort();
        int v = any(12) - 1;
        int n = any(10) == 0 ? any(8) - 2 : 1 + any(4);
        int told = told(Math.max(0, Math.min(n, 4)));
        due(at, "may(" + p + ", " + q + ")", x.may(p, q), m.may(p, q));
        due(at, "judge(" + n + ", " + told + ")", x.judge(n, told), m.judge(n, told));
        switch (any(10)) {
            case 0, 1, 2, 3 -> due(at, "exchange(" + p + ", " + q + ")", x.exchange(p, q), m.exchange(p, q));
            case 4, 5, 6 -> due(at, "sea(" + p + ")", x.sea(p), m.sea(p));
            case 7, 8 -> due(at, "undo()", x.undo(), m.undo());
            default -> due(at, "value(" + p + ", " + s + ", " + v + ")", x.value(p, s, v), m.value(p, s, v));
        }
    }

    private void tell(int at) {
        int p = person();
        int s = sort();
        due(at, "holds(" + p + ")", x.holds(p), m.holds(p));
        due(at, "had(" + p + ")", x.had(p), m.had(p));
        due(at, "worth(" + p + ", " + s + ")", x.worth(p, s), m.worth(p, s));
    }

    private void tellRuns(int at) {
        due(at, "longest()", x.longest(), m.longest());
        due(at, "shortest()", x.shortest(), m.shortest());
        due(at, "runs()", x.runs(), m.runs());
    }

    private void wants(int at) {
        int p = person();
        int s = any(4) == 0 ? NeverHadBefore.NONE : sort();
        due(at, "want(" + p + ", " + s + ")", x.want(p, s), m.want(p, s));
        due(at, "fewest()", x.fewest(), m.fewest());
        for (int i = -1; i < 7; i++) {
            due(at, "plan(" + i + ")", x.plan(i), m.plan(i));
        }
        due(at, "mayComeTo(" + p + ")", x.mayComeTo(p), m.mayComeTo(p));
        if (any(6) == 0) {
            due(at, "begin(" + p + ")", x.begin(p), m.begin(p));
        }
    }

    private void ringsAndTurns(int at) {
        int p = person();
        int s = sort();
        int k = turns();
        due(at, "rings()", x.rings(), m.rings());
        for (int i = -1; i <= 4; i++) {
            due(at, "ringAt(" + i + ")", x.ringAt(i), m.ringAt(i));
        }
        due(at, "frees(" + s + ")", x.frees(s), m.frees(s));
        due(at, "turns(" + k + ", " + p + ")", x.turns(k, p), m.turns(k, p));
        due(at, "first(" + k + ")", x.first(k), m.first(k));
    }

    private void hidden(int at) {
        int s = sort();
        boolean took = any(2) == 0;
        if (any(9) == 0) {
            due(at, "unsee()", x.unsee(), m.unsee());
        }
        due(at, "sight(" + s + ", " + took + ")", x.sight(s, took), m.sight(s, took));
        due(at, "lists()", x.lists(), m.lists());
        due(at, "listed(" + s + ")", x.listed(s), m.listed(s));
    }

    private void slots(int at) {
        int slot = slot();
        if (any(2) == 0) {
            due(at, "keep(" + slot + ")", x.keep(slot), m.keep(slot));
        } else {
            due(at, "again(" + slot + ")", x.again(slot), m.again(slot));
        }
    }

    private void look(int at) {
        for (int what = -1; what <= 8; what++) {
            due(at, "about(" + what + ")", x.about(what), m.about(what));
        }
        for (int p = 0; p < 4; p++) {
            due(at, "holds(" + p + ")", x.holds(p), m.holds(p));
            due(at, "had(" + p + ")", x.had(p), m.had(p));
        }
    }
}
