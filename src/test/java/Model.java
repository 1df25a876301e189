import java.util.ArrayDeque;
import java.util.ArrayList;
import java.util.Arrays;
import java.util.Deque;
import java.util.HashMap;
import java.util.HashSet;
import java.util.List;
import java.util.Map;
import java.util.Set;
import java.util.TreeSet;

/** The document a second time, by other ways: states are copied, rows and choices are all told and then sorted. */
final class Model {
    private static final int NONE = -9, UNKNOWN = -1, BAD = -2, LATE = -3, FULL = -4;

    /** What all hold ('-': nothing) and have had. */
    record State(String held, List<Set<Character>> had) {
        boolean may(int a, int b) {
            char x = held.charAt(a);
            char y = held.charAt(b);
            return x != '-' && y != '-' && !had.get(a).contains(y) && !had.get(b).contains(x);
        }

        State with(int person, char thing) {
            StringBuilder h = new StringBuilder(held);
            h.setCharAt(person, thing);
            List<Set<Character>> all = new ArrayList<>(had);
            Set<Character> one = new TreeSet<>(had.get(person));
            if (thing != '-') {
                one.add(thing);
            }
            all.set(person, one);
            return new State(h.toString(), all);
        }

        State swapped(int a, int b) {
            return with(a, held.charAt(b)).with(b, held.charAt(a));
        }

        State begunWith(int person, char thing) {
            List<Set<Character>> all = new ArrayList<>(had);
            all.set(person, new TreeSet<>());
            return new State(held, all).with(person, thing);
        }

        List<int[]> exchanges() {
            List<int[]> all = new ArrayList<>();
            for (int told = 0; told < 100; told++) {
                int a = told / 10;
                int b = told % 10;
                if (a < b && b < held.length() && may(a, b)) {
                    all.add(new int[] {a, b});
                }
            }
            return all;
        }

        boolean dead(int person) {
            char thing = held.charAt(person);
            return thing != '-' && had.stream().allMatch(list -> list.contains(thing));
        }

        int holders() {
            return held.replace("-", "").length();
        }
    }

    private String text = "";
    private State now = new State("", List.of());
    private final Deque<State> before = new ArrayDeque<>();
    private int[][] worths = new int[0][];
    private int[] wants = new int[0];
    private final List<int[]> sights = new ArrayList<>();
    private final State[] kept = new State[2];

    private int people() {
        return now.held.length();
    }

    private boolean noPerson(int p) {
        return p < 0 || p >= people();
    }

    private static boolean noSort(int s) {
        return s < 0 || s > 5;
    }

    private static int sortOf(char thing) {
        return thing == '-' ? NONE : thing - 'a';
    }

    private int worthOf(int p, char thing) {
        return thing == '-' ? 0 : worths[p][thing - 'a'];
    }

    private int wealth(State s) {
        int sum = 0;
        for (int p = 0; p < people(); p++) {
            sum += worthOf(p, s.held.charAt(p));
        }
        return sum;
    }

    private static int bits(Set<Character> sorts) {
        return sorts.stream().mapToInt(c -> 1 << (c - 'a')).sum();
    }

    // ---- the fair

    int write(int n, long v) {
        if (n < 1 || n > 8) {
            return BAD;
        }
        if (text.length() + n > 64) {
            return FULL;
        }
        byte[] all = java.nio.ByteBuffer.allocate(8).putLong(v).array();
        text += new String(all, 8 - n, n, java.nio.charset.StandardCharsets.ISO_8859_1);
        return text.length();
    }

    int wipe() {
        int was = text.length();
        text = "";
        return was;
    }

    private static boolean isFair(String t) {
        if (!t.matches("(P[-a-f][0-9]{6}[a-f]*){0,4}")) {
            return false;
        }
        for (String part : t.split("P")) {
            String sorts = part.replaceAll("[-0-9]", "");
            if (sorts.chars().distinct().count() != sorts.length()) {
                return false;
            }
        }
        return true;
    }

    private static boolean mayGoOn(String t) {
        String tail = "Pa000000";
        for (int i = 1; i <= tail.length(); i++) {
            if (isFair(t + tail.substring(i))) {
                return true;
            }
        }
        return false;
    }

    int fault() {
        for (int i = 0; i < text.length(); i++) {
            if (!mayGoOn(text.substring(0, i + 1))) {
                return i;
            }
        }
        return isFair(text) ? NONE : text.length();
    }

    int fair() {
        if (fault() != NONE) {
            return LATE;
        }
        String[] parts = text.isEmpty() ? new String[0] : text.substring(1).split("P");
        worths = new int[parts.length][6];
        wants = new int[parts.length];
        Arrays.fill(wants, NONE);
        StringBuilder held = new StringBuilder();
        List<Set<Character>> had = new ArrayList<>();
        for (int p = 0; p < parts.length; p++) {
            held.append(parts[p].charAt(0));
            Set<Character> list = new TreeSet<>();
            for (char c : parts[p].replaceAll("[-0-9]", "").toCharArray()) {
                list.add(c);
            }
            had.add(list);
            for (int s = 0; s < 6; s++) {
                worths[p][s] = parts[p].charAt(1 + s) - '0';
            }
        }
        now = new State(held.toString(), had);
        before.clear();
        Arrays.fill(kept, null);
        return parts.length;
    }

    int about(int what) {
        int dead = 0;
        int wanting = 0;
        for (int p = 0; p < people(); p++) {
            dead += now.dead(p) ? 1 : 0;
            wanting += wants[p] == NONE ? 0 : 1;
        }
        int[] all = {people(), now.holders(), dead, before.size(), wanting, sights.size(), wealth(now), text.length()};
        return what < 0 || what > 7 ? BAD : all[what];
    }

    int holds(int p) {
        return noPerson(p) ? UNKNOWN : sortOf(now.held.charAt(p));
    }

    int had(int p) {
        return noPerson(p) ? UNKNOWN : bits(now.had.get(p));
    }

    int worth(int p, int s) {
        return noPerson(p) || noSort(s) ? UNKNOWN : worths[p][s];
    }

    int value(int p, int s, int v) {
        if (noPerson(p) || noSort(s)) {
            return UNKNOWN;
        }
        if (v < 0 || v > 9) {
            return BAD;
        }
        int was = worths[p][s];
        worths[p][s] = v;
        return was;
    }

    // ---- acts

    int may(int p, int q) {
        if (noPerson(p) || noPerson(q)) {
            return UNKNOWN;
        }
        return p == q ? BAD : now.may(p, q) ? 1 : 0;
    }

    private void act(State next) {
        before.addLast(now);
        if (before.size() > 16) {
            before.removeFirst();
        }
        now = next;
    }

    int exchange(int p, int q) {
        int may = may(p, q);
        if (may != 1) {
            return may == 0 ? LATE : may;
        }
        int was = wealth(now);
        act(now.swapped(p, q));
        return wealth(now) - was + 100;
    }

    int sea(int p) {
        if (noPerson(p)) {
            return UNKNOWN;
        }
        if (!now.dead(p)) {
            return LATE;
        }
        int sort = holds(p);
        act(now.with(p, '-'));
        return sort;
    }

    int undo() {
        if (before.isEmpty()) {
            return LATE;
        }
        now = before.removeLast();
        return before.size();
    }

    int judge(int n, int told) {
        if (n < 1 || n > 4 || told < 0 || String.valueOf(told).length() > 2 * n) {
            return BAD;
        }
        String figures = String.format("%0" + 2 * n + "d", told);
        State s = now;
        for (int i = 0; i < n; i++) {
            int a = figures.charAt(2 * i) - '0';
            int b = figures.charAt(2 * i + 1) - '0';
            if (a == b || noPerson(a) || noPerson(b) || !s.may(a, b)) {
                return i;
            }
            s = s.swapped(a, b);
        }
        return NONE;
    }

    // ---- runs

    /** Longest, shortest, how many, from a state on. */
    private static int[] ends(State s, Map<State, int[]> known) {
        int[] done = known.get(s);
        if (done != null) {
            return done;
        }
        int[] all = null;
        for (int[] e : s.exchanges()) {
            int[] behind = ends(s.swapped(e[0], e[1]), known);
            all = all == null
                ? new int[] {behind[0] + 1, behind[1] + 1, behind[2]}
                : new int[] {Math.max(all[0], behind[0] + 1), Math.min(all[1], behind[1] + 1), all[2] + behind[2]};
        }
        if (all == null) {
            all = new int[] {0, 0, 1};
        }
        known.put(s, all);
        return all;
    }

    int longest() {
        return ends(now, new HashMap<>())[0];
    }

    int shortest() {
        return ends(now, new HashMap<>())[1];
    }

    int runs() {
        return ends(now, new HashMap<>())[2];
    }

    // ---- wants

    int want(int p, int s) {
        if (noPerson(p) || (noSort(s) && s != NONE)) {
            return UNKNOWN;
        }
        int was = wants[p];
        wants[p] = s;
        return was;
    }

    private record Row(State end, List<Integer> told) {
    }

    private boolean served(State s) {
        for (int p = 0; p < people(); p++) {
            if (wants[p] != NONE && wants[p] != sortOf(s.held.charAt(p))) {
                return false;
            }
        }
        return true;
    }

    /** All rows of one length, in their order, then all that are one longer: the first that serves; null: none. */
    private List<Integer> firstRow() {
        List<Row> rows = List.of(new Row(now, List.of()));
        while (!rows.isEmpty()) {
            List<Row> longer = new ArrayList<>();
            for (Row row : rows) {
                if (served(row.end)) {
                    return row.told;
                }
                for (int[] e : row.end.exchanges()) {
                    List<Integer> told = new ArrayList<>(row.told);
                    told.add(10 * e[0] + e[1]);
                    longer.add(new Row(row.end.swapped(e[0], e[1]), told));
                }
            }
            rows = longer;
        }
        return null;
    }

    int fewest() {
        List<Integer> row = firstRow();
        return row == null ? NONE : row.size();
    }

    int plan(int i) {
        List<Integer> row = firstRow();
        return row == null || i < 0 || i >= row.size() ? NONE : row.get(i);
    }

    private static Set<Character> comesTo(State from, int p) {
        Set<Character> sorts = new TreeSet<>();
        Set<State> seen = new HashSet<>(Set.of(from));
        Deque<State> open = new ArrayDeque<>(seen);
        while (!open.isEmpty()) {
            State s = open.remove();
            if (s.held.charAt(p) != '-') {
                sorts.add(s.held.charAt(p));
            }
            for (int[] e : s.exchanges()) {
                State next = s.swapped(e[0], e[1]);
                if (seen.add(next)) {
                    open.add(next);
                }
            }
        }
        return sorts;
    }

    int mayComeTo(int p) {
        return noPerson(p) ? UNKNOWN : bits(comesTo(now, p));
    }

    int begin(int p) {
        if (noPerson(p)) {
            return UNKNOWN;
        }
        if (now.held.charAt(p) == '-') {
            return LATE;
        }
        int best = 5;
        for (int s = 5; s >= 0; s--) {
            if (comesTo(now.begunWith(p, (char) ('a' + s)), p).size()
                    >= comesTo(now.begunWith(p, (char) ('a' + best)), p).size()) {
                best = s;
            }
        }
        return best;
    }

    // ---- rings, newcomers, turns

    /** All ways to take at once, the best one first; a way: gain, takers, from whom each takes. */
    private int[] bestWay() {
        int n = people();
        List<int[]> ways = new ArrayList<>();
        for (int code = 0; code < Math.pow(n, n); code++) {
            int[] way = new int[2 + n];
            Set<Integer> givers = new HashSet<>();
            boolean good = true;
            for (int p = 0, rest = code; p < n; p++, rest /= n) {
                int from = rest % n;
                way[2 + p] = from;
                givers.add(from);
                char mine = now.held.charAt(p);
                char its = now.held.charAt(from);
                if (from != p) {
                    int more = worthOf(p, its) - worthOf(p, mine);
                    good &= mine != '-' && its != '-' && !now.had.get(p).contains(its) && more > 0;
                    way[0] += more;
                    way[1]++;
                }
            }
            if (good && givers.size() == n) {
                ways.add(way);
            }
        }
        ways.sort((a, b) -> a[0] != b[0] ? b[0] - a[0] : Arrays.compare(a, b));
        return ways.get(0);
    }

    int rings() {
        return bestWay()[0];
    }

    int ringAt(int p) {
        return noPerson(p) ? UNKNOWN : bestWay()[2 + p];
    }

    int frees(int sort) {
        if (noSort(sort)) {
            return UNKNOWN;
        }
        char thing = (char) ('a' + sort);
        List<Set<Character>> had = new ArrayList<>(now.had);
        had.add(Set.of(thing));
        State with = new State(now.held + thing, had);
        int freed = 0;
        for (int p = 0; p < people(); p++) {
            int who = p;
            boolean wasFree = now.exchanges().stream().anyMatch(e -> e[0] == who || e[1] == who);
            if (!wasFree && with.may(p, people())) {
                freed += 1 << p;
            }
        }
        return freed;
    }

    private record Choice(int from, State end) {
    }

    private Choice played(State s, int turn, int k) {
        if (turn == k || people() == 0) {
            return new Choice(NONE, s);
        }
        int me = turn % people();
        List<Choice> choices = new ArrayList<>();
        choices.add(new Choice(NONE, played(s, turn + 1, k).end));
        for (int[] e : s.exchanges()) {
            if (e[0] == me || e[1] == me) {
                int other = e[0] + e[1] - me;
                if (worthOf(other, s.held.charAt(me)) >= worthOf(other, s.held.charAt(other))) {
                    choices.add(new Choice(other, played(s.swapped(me, other), turn + 1, k).end));
                }
            }
        }
        choices.sort((a, b) -> {
            int more = worthOf(me, b.end.held.charAt(me)) - worthOf(me, a.end.held.charAt(me));
            return more != 0 ? more : a.from - b.from;
        });
        return choices.get(0);
    }

    int turns(int k, int p) {
        if (noPerson(p)) {
            return UNKNOWN;
        }
        return k < 1 || k > 6 ? BAD : sortOf(played(now, 0, k).end.held.charAt(p));
    }

    int first(int k) {
        return k < 1 || k > 6 ? BAD : played(now, 0, k).from;
    }

    // ---- hidden

    int sight(int sort, boolean took) {
        if (noSort(sort)) {
            return UNKNOWN;
        }
        if (sights.size() == 8) {
            return FULL;
        }
        sights.add(new int[] {sort, took ? 1 : 0});
        return sights.size();
    }

    int unsee() {
        int was = sights.size();
        sights.clear();
        return was;
    }

    private List<Integer> fitting() {
        List<Integer> all = new ArrayList<>();
        for (int list = 0; list < 64; list++) {
            int on = list;
            boolean fits = true;
            for (int[] sight : sights) {
                boolean had = (on & 1 << sight[0]) != 0;
                fits &= had == (sight[1] == 0);
                on |= 1 << sight[0];
            }
            if (fits) {
                all.add(list);
            }
        }
        return all;
    }

    int lists() {
        return fitting().size();
    }

    int listed(int sort) {
        if (noSort(sort)) {
            return UNKNOWN;
        }
        List<Integer> all = fitting();
        if (all.isEmpty()) {
            return NONE;
        }
        long with = all.stream().filter(list -> (list & 1 << sort) != 0).count();
        return with == 0 ? 0 : with == all.size() ? 1 : 2;
    }

    // ---- slots

    int keep(int slot) {
        if (slot < 0 || slot > 1) {
            return UNKNOWN;
        }
        kept[slot] = now;
        return now.holders();
    }

    int again(int slot) {
        if (slot < 0 || slot > 1) {
            return UNKNOWN;
        }
        if (kept[slot] == null) {
            return LATE;
        }
        now = kept[slot];
        before.clear();
        return now.holders();
    }
}
