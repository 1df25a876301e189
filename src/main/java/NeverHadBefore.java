/** A fair at which one may take in exchange only what one has never had. */
public final class NeverHadBefore {
    public static final int UNKNOWN = -1, BAD = -2, LATE = -3, FULL = -4, NONE = -9;

    private static final int MOST_PEOPLE = 4;
    private static final int SORTS = 6;
    private static final int MOST_BYTES = 64;
    private static final int MOST_ACTS = 16;
    private static final int MOST_JUDGED = 4;
    private static final int MOST_TURNS = 6;
    private static final int MOST_SIGHTS = 8;
    private static final int SLOTS = 2;

    // An exchange lengthens two lists of what was had, and all lists together hold 24.
    private static final int MOST_EXCHANGES = MOST_PEOPLE * SORTS / 2;

    private final Text text;
    private final People people;
    private final People draft;
    private final Acts acts;
    private final Runs ends;
    private final Wants wants;
    private final Rings circle;
    private final Turns game;
    private final Sights stranger;
    private final Slot[] slots;
    private final int[] judged;

    public NeverHadBefore() {
        text = new Text();
        people = new People();
        draft = new People();
        acts = new Acts();
        ends = new Runs();
        wants = new Wants();
        circle = new Rings();
        game = new Turns();
        stranger = new Sights();
        slots = new Slot[SLOTS];
        for (int i = 0; i < SLOTS; i++) {
            slots[i] = new Slot();
        }
        judged = new int[MOST_JUDGED];
    }

    // ---- the fair

    public int write(int n, long v) {
        if (n < 1 || n > 8) {
            return BAD;
        }
        if (text.length + n > MOST_BYTES) {
            return FULL;
        }
        text.append(n, v);
        return text.length;
    }

    public int wipe() {
        int was = text.length;
        text.length = 0;
        return was;
    }

    public int fault() {
        return text.readInto(draft);
    }

    public int fair() {
        if (text.readInto(draft) != NONE) {
            return LATE;
        }
        people.become(draft);
        acts.count = 0;
        wants.forget();
        for (int i = 0; i < SLOTS; i++) {
            slots[i].filled = false;
        }
        return people.count;
    }

    public int about(int what) {
        switch (what) {
            case 0:
                return people.count;
            case 1:
                return people.holders();
            case 2:
                return people.deadThings();
            case 3:
                return acts.count;
            case 4:
                return wants.howMany(people);
            case 5:
                return stranger.count;
            case 6:
                return people.wealth();
            case 7:
                return text.length;
            default:
                return BAD;
        }
    }

    public int holds(int person) {
        if (!people.has(person)) {
            return UNKNOWN;
        }
        return people.held[person];
    }

    public int had(int person) {
        if (!people.has(person)) {
            return UNKNOWN;
        }
        return people.known[person];
    }

    public int worth(int person, int sort) {
        if (!people.has(person) || !isSort(sort)) {
            return UNKNOWN;
        }
        return people.worthOf(person, sort);
    }

    public int value(int person, int sort, int v) {
        if (!people.has(person) || !isSort(sort)) {
            return UNKNOWN;
        }
        if (v < 0 || v > 9) {
            return BAD;
        }
        int was = people.worthOf(person, sort);
        people.setWorth(person, sort, v);
        return was;
    }

    // ---- acts

    public int may(int person, int other) {
        if (!people.has(person) || !people.has(other)) {
            return UNKNOWN;
        }
        if (person == other) {
            return BAD;
        }
        return people.canSwap(person, other) ? 1 : 0;
    }

    public int exchange(int person, int other) {
        if (!people.has(person) || !people.has(other)) {
            return UNKNOWN;
        }
        if (person == other) {
            return BAD;
        }
        if (!people.canSwap(person, other)) {
            return LATE;
        }
        int before = people.wealth();
        people.swap(person, other);
        acts.addExchange(person, other);
        return people.wealth() - before + 100;
    }

    public int sea(int person) {
        if (!people.has(person)) {
            return UNKNOWN;
        }
        if (!people.isDead(person)) {
            return LATE;
        }
        int sort = people.held[person];
        people.held[person] = NONE;
        acts.addSea(person, sort);
        return sort;
    }

    public int undo() {
        if (acts.count == 0) {
            return LATE;
        }
        acts.undoLast(people);
        return acts.count;
    }

    public int judge(int n, int told) {
        if (n < 1 || n > MOST_JUDGED || told < 0) {
            return BAD;
        }
        int rest = told;
        for (int i = n - 1; i >= 0; i--) {
            judged[i] = rest % 100;
            rest = rest / 100;
        }
        if (rest != 0) {
            return BAD;
        }
        return firstThatMayNotBe(n);
    }

    private int firstThatMayNotBe(int n) {
        int made = 0;
        while (made < n && people.canSwap(judged[made] / 10, judged[made] % 10)) {
            people.swap(judged[made] / 10, judged[made] % 10);
            made++;
        }
        for (int i = made - 1; i >= 0; i--) {
            people.swapBack(judged[i] / 10, judged[i] % 10);
        }
        return made < n ? made : NONE;
    }

    // ---- runs

    public int longest() {
        ends.walkAll(people);
        return ends.most;
    }

    public int shortest() {
        ends.walkAll(people);
        return ends.least;
    }

    public int runs() {
        ends.walkAll(people);
        return ends.number;
    }

    // ---- wants

    public int want(int person, int sort) {
        if (!people.has(person) || (sort != NONE && !isSort(sort))) {
            return UNKNOWN;
        }
        int was = wants.wanted[person];
        wants.wanted[person] = sort;
        return was;
    }

    public int fewest() {
        wants.seekAll(people);
        return wants.best;
    }

    public int plan(int i) {
        wants.seekAll(people);
        if (i < 0 || i >= MOST_EXCHANGES || i >= wants.best) {
            return NONE;
        }
        return wants.bestRow[i];
    }

    public int mayComeTo(int person) {
        if (!people.has(person)) {
            return UNKNOWN;
        }
        return Reach.sorts(people, person);
    }

    public int begin(int person) {
        if (!people.has(person)) {
            return UNKNOWN;
        }
        if (people.held[person] == NONE) {
            return LATE;
        }
        return Reach.bestBegin(people, person);
    }

    // ---- rings, newcomers, turns

    public int rings() {
        circle.choose(people);
        return circle.bestGain;
    }

    public int ringAt(int person) {
        if (!people.has(person)) {
            return UNKNOWN;
        }
        circle.choose(people);
        return circle.bestFrom[person];
    }

    public int frees(int sort) {
        if (!isSort(sort)) {
            return UNKNOWN;
        }
        int freed = 0;
        for (int i = 0; i < people.count; i++) {
            if (people.held[i] != NONE && people.isNew(i, sort) && !people.canSwapAtAll(i)) {
                freed |= 1 << i;
            }
        }
        return freed;
    }

    public int turns(int k, int person) {
        if (!people.has(person)) {
            return UNKNOWN;
        }
        if (k < 1 || k > MOST_TURNS) {
            return BAD;
        }
        game.play(people, k);
        return game.holdsInTheEnd(person);
    }

    public int first(int k) {
        if (k < 1 || k > MOST_TURNS) {
            return BAD;
        }
        game.play(people, k);
        return game.opening;
    }

    // ---- hidden

    public int sight(int sort, boolean took) {
        if (!isSort(sort)) {
            return UNKNOWN;
        }
        if (stranger.count >= MOST_SIGHTS) {
            return FULL;
        }
        stranger.add(sort, took);
        return stranger.count;
    }

    public int unsee() {
        int was = stranger.count;
        stranger.count = 0;
        return was;
    }

    public int lists() {
        return stranger.fittingLists();
    }

    public int listed(int sort) {
        if (!isSort(sort)) {
            return UNKNOWN;
        }
        return stranger.hadAtFirst(sort);
    }

    // ---- slots

    public int keep(int slot) {
        if (!isSlot(slot)) {
            return UNKNOWN;
        }
        slots[slot].store(people);
        return people.holders();
    }

    public int again(int slot) {
        if (!isSlot(slot)) {
            return UNKNOWN;
        }
        if (!slots[slot].filled) {
            return LATE;
        }
        slots[slot].restore(people);
        acts.count = 0;
        return people.holders();
    }

    private static boolean isSort(int sort) {
        return sort >= 0 && sort < SORTS;
    }

    private static boolean isSlot(int slot) {
        return slot >= 0 && slot < SLOTS;
    }

    private static int bit(int sort) {
        return isSort(sort) ? 1 << sort : 0;
    }

    private static int told(int person, int other) {
        return 10 * Math.min(person, other) + Math.max(person, other);
    }

    /** The people of a fair: what each holds, has had, and what the sorts are worth to it. */
    private static final class People {
        int count;
        final int[] held = new int[MOST_PEOPLE];
        final int[] known = new int[MOST_PEOPLE];
        private final int[] worths = new int[MOST_PEOPLE * SORTS];

        boolean has(int person) {
            return person >= 0 && person < count;
        }

        void become(People other) {
            count = other.count;
            System.arraycopy(other.held, 0, held, 0, MOST_PEOPLE);
            System.arraycopy(other.known, 0, known, 0, MOST_PEOPLE);
            System.arraycopy(other.worths, 0, worths, 0, MOST_PEOPLE * SORTS);
        }

        boolean addPerson() {
            if (count >= MOST_PEOPLE) {
                return false;
            }
            held[count] = NONE;
            known[count] = 0;
            count++;
            return true;
        }

        int worthOf(int person, int sort) {
            return has(person) && isSort(sort) ? worths[person * SORTS + sort] : 0;
        }

        void setWorth(int person, int sort, int v) {
            if (has(person) && isSort(sort)) {
                worths[person * SORTS + sort] = v;
            }
        }

        boolean isNew(int person, int sort) {
            return has(person) && isSort(sort) && lacks(known[person], sort);
        }

        private static boolean lacks(int list, int sort) {
            return sort != NONE && (list >> sort & 1) == 0;
        }

        // One has had what one holds: so of a person and itself this is false.
        boolean canSwap(int person, int other) {
            return has(person) && has(other)
                && lacks(known[person], held[other]) && lacks(known[other], held[person]);
        }

        boolean canSwapAtAll(int person) {
            for (int i = 0; i < count; i++) {
                if (canSwap(person, i)) {
                    return true;
                }
            }
            return false;
        }

        void swap(int person, int other) {
            if (has(person) && has(other)) {
                crossThings(person, other);
                known[person] |= bit(held[person]);
                known[other] |= bit(held[other]);
            }
        }

        // Only for the last swap: what each took then was new to it.
        void swapBack(int person, int other) {
            if (has(person) && has(other)) {
                known[person] &= ~bit(held[person]);
                known[other] &= ~bit(held[other]);
                crossThings(person, other);
            }
        }

        private void crossThings(int person, int other) {
            int thing = held[person];
            held[person] = held[other];
            held[other] = thing;
        }

        boolean isDead(int person) {
            if (!has(person) || held[person] == NONE) {
                return false;
            }
            for (int i = 0; i < count; i++) {
                if (isNew(i, held[person])) {
                    return false;
                }
            }
            return true;
        }

        int deadThings() {
            int dead = 0;
            for (int i = 0; i < count; i++) {
                if (isDead(i)) {
                    dead++;
                }
            }
            return dead;
        }

        int holders() {
            int holding = 0;
            for (int i = 0; i < count; i++) {
                if (held[i] != NONE) {
                    holding++;
                }
            }
            return holding;
        }

        int wealth() {
            int sum = 0;
            for (int i = 0; i < count; i++) {
                sum += worthOf(i, held[i]);
            }
            return sum;
        }
    }

    /** The text, and how a fair is read from it. */
    private static final class Text {
        private static final int AT_THING = 1;
        private static final int AT_WORTH = 2;
        private static final int AT_LIST = AT_WORTH + SORTS;

        int length;
        private final int[] bytes = new int[MOST_BYTES];

        void append(int n, long v) {
            for (int i = n - 1; i >= 0 && length < MOST_BYTES; i--) {
                bytes[length] = (int) (v >>> (8 * i)) & 255;
                length++;
            }
        }

        /** The fault, or NONE: then the people are those that the text tells. */
        int readInto(People into) {
            into.count = 0;
            int at = AT_LIST;
            for (int i = 0; i < length; i++) {
                at = take(into, at, bytes[i]);
                if (at == NONE) {
                    return i;
                }
            }
            return at == AT_LIST ? NONE : length;
        }

        /** Where in its part the last person stands behind this byte; NONE: it may not come here. */
        private static int take(People into, int at, int b) {
            if (at == AT_LIST && b == 'P') {
                return into.addPerson() ? AT_THING : NONE;
            }
            int last = into.count - 1;
            if (last < 0) {
                return NONE;
            }
            if (at == AT_THING) {
                return takeThing(into, last, b);
            }
            if (at < AT_LIST) {
                return takeWorth(into, last, at, b);
            }
            return takeKnown(into, last, b);
        }

        private static int takeThing(People into, int person, int b) {
            if (b == '-') {
                return AT_WORTH;
            }
            if (!isSort(b - 'a')) {
                return NONE;
            }
            into.held[person] = b - 'a';
            into.known[person] = bit(b - 'a');
            return AT_WORTH;
        }

        private static int takeWorth(People into, int person, int at, int b) {
            if (b < '0' || b > '9') {
                return NONE;
            }
            into.setWorth(person, at - AT_WORTH, b - '0');
            return at + 1;
        }

        private static int takeKnown(People into, int person, int b) {
            if (!into.isNew(person, b - 'a')) {
                return NONE;
            }
            into.known[person] |= bit(b - 'a');
            return AT_LIST;
        }
    }

    /** The row of acts, of which the last can be undone. */
    private static final class Acts {
        // What went to the sea is told behind all that tells an exchange.
        private static final int SEA = 100;

        int count;
        private final int[] row = new int[MOST_ACTS];

        void addExchange(int person, int other) {
            add(told(person, other));
        }

        void addSea(int person, int sort) {
            add(SEA + 10 * person + sort);
        }

        private void add(int act) {
            if (count >= MOST_ACTS) {
                System.arraycopy(row, 1, row, 0, MOST_ACTS - 1);
                count = MOST_ACTS - 1;
            }
            row[count] = act;
            count++;
        }

        void undoLast(People people) {
            if (count == 0) {
                return;
            }
            count--;
            int act = row[count];
            if (act < SEA) {
                people.swapBack(act / 10, act % 10);
                return;
            }
            int person = (act - SEA) / 10;
            if (people.has(person)) {
                people.held[person] = act % 10;
            }
        }
    }

    /** All runs from now on. */
    private static final class Runs {
        int most;
        int least;
        int number;

        void walkAll(People people) {
            most = 0;
            least = MOST_EXCHANGES;
            number = 0;
            walk(this, people, 0);
        }

        private static void walk(Runs found, People people, int made) {
            boolean ended = true;
            for (int i = 0; i < people.count; i++) {
                for (int j = i + 1; j < people.count; j++) {
                    if (made < MOST_EXCHANGES && people.canSwap(i, j)) {
                        ended = false;
                        people.swap(i, j);
                        walk(found, people, made + 1);
                        people.swapBack(i, j);
                    }
                }
            }
            if (ended) {
                found.noteEnd(made);
            }
        }

        private void noteEnd(int made) {
            most = Math.max(most, made);
            least = Math.min(least, made);
            number++;
        }
    }

    /** What people want, and the first of the shortest rows that bring it. */
    private static final class Wants {
        final int[] wanted = new int[MOST_PEOPLE];
        int best;
        final int[] bestRow = new int[MOST_EXCHANGES];
        private final int[] row = new int[MOST_EXCHANGES];
        // A row of more exchanges than this is no better than the best one.
        private int limit;

        Wants() {
            forget();
        }

        void forget() {
            for (int i = 0; i < MOST_PEOPLE; i++) {
                wanted[i] = NONE;
            }
        }

        int howMany(People people) {
            int wanting = 0;
            for (int i = 0; i < people.count; i++) {
                if (wanted[i] != NONE) {
                    wanting++;
                }
            }
            return wanting;
        }

        private boolean met(People people) {
            for (int i = 0; i < people.count; i++) {
                if (wanted[i] != NONE && wanted[i] != people.held[i]) {
                    return false;
                }
            }
            return true;
        }

        void seekAll(People people) {
            best = NONE;
            limit = MOST_EXCHANGES;
            seek(this, people, 0);
        }

        // Rows come in their order: so of like ones the first is found first, and stays.
        private static void seek(Wants found, People people, int made) {
            if (found.met(people)) {
                found.takeRow(made);
                return;
            }
            for (int i = 0; i < people.count; i++) {
                for (int j = i + 1; j < people.count; j++) {
                    if (made < found.limit && people.canSwap(i, j)) {
                        found.row[made] = told(i, j);
                        people.swap(i, j);
                        seek(found, people, made + 1);
                        people.swapBack(i, j);
                    }
                }
            }
        }

        private void takeRow(int made) {
            best = made;
            limit = made - 1;
            System.arraycopy(row, 0, bestRow, 0, made);
        }
    }

    /** What a person may come to by exchanges. */
    private static final class Reach {
        static int sorts(People people, int person) {
            return come(people, person, 0, wholeHope(people, person), 0);
        }

        // No more than that can be reached: what it holds, and what is new to it of all things.
        private static int wholeHope(People people, int person) {
            int hope = bit(people.held[person]);
            for (int i = 0; i < people.count; i++) {
                if (people.isNew(person, people.held[i])) {
                    hope |= bit(people.held[i]);
                }
            }
            return hope;
        }

        private static int come(People people, int person, int before, int hope, int made) {
            int reached = before | bit(people.held[person]);
            for (int i = 0; i < people.count && reached != hope; i++) {
                for (int j = i + 1; j < people.count && reached != hope; j++) {
                    if (made < MOST_EXCHANGES && people.canSwap(i, j)) {
                        people.swap(i, j);
                        reached = come(people, person, reached, hope, made + 1);
                        people.swapBack(i, j);
                    }
                }
            }
            return reached;
        }

        static int bestBegin(People people, int person) {
            int thing = people.held[person];
            int list = people.known[person];
            int best = 0;
            int most = 0;
            for (int sort = 0; sort < SORTS; sort++) {
                people.held[person] = sort;
                people.known[person] = bit(sort);
                int reached = Integer.bitCount(sorts(people, person));
                if (reached > most) {
                    most = reached;
                    best = sort;
                }
            }
            people.held[person] = thing;
            people.known[person] = list;
            return best;
        }
    }

    /** The best rings in which each takes what is new and better. */
    private static final class Rings {
        int bestGain;
        final int[] bestFrom = new int[MOST_PEOPLE];
        private int bestTakers;
        private final int[] from = new int[MOST_PEOPLE];

        void choose(People people) {
            bestGain = NONE;
            bestTakers = 0;
            give(this, people, 0, 0, 0);
        }

        // Choices come in their order: so of like ones the first is found first, and stays.
        private static void give(Rings found, People people, int person, int taken, int gain) {
            if (person >= people.count) {
                found.compare(people, gain);
                return;
            }
            for (int i = 0; i < people.count; i++) {
                boolean free = (taken & (1 << i)) == 0;
                if (free && (i == person || isBetter(people, person, i))) {
                    found.from[person] = i;
                    int more = gain + people.worthOf(person, people.held[i])
                        - people.worthOf(person, people.held[person]);
                    give(found, people, person + 1, taken | (1 << i), more);
                }
            }
        }

        private static boolean isBetter(People people, int person, int other) {
            int mine = people.held[person];
            int its = people.held[other];
            return mine != NONE && people.isNew(person, its)
                && people.worthOf(person, its) > people.worthOf(person, mine);
        }

        private void compare(People people, int gain) {
            int takers = 0;
            for (int i = 0; i < people.count; i++) {
                if (from[i] != i) {
                    takers++;
                }
            }
            if (gain > bestGain || (gain == bestGain && takers < bestTakers)) {
                bestGain = gain;
                bestTakers = takers;
                System.arraycopy(from, 0, bestFrom, 0, people.count);
            }
        }
    }

    /** Turns of all who look to themselves. */
    private static final class Turns {
        // What all hold stands in one number, three bits each.
        private static final int NOTHING = 7;

        int opening;
        private int end;

        void play(People people, int turns) {
            opening = NONE;
            end = bestEnd(this, people, 0, turns);
        }

        int holdsInTheEnd(int person) {
            return thingIn(end, person);
        }

        private static int bestEnd(Turns game, People people, int turn, int turns) {
            if (turn >= turns || turn >= MOST_TURNS || people.count < 1) {
                return allThings(people);
            }
            int person = turn % people.count;
            int best = bestEnd(game, people, turn + 1, turns);
            int from = NONE;
            for (int i = 0; i < people.count; i++) {
                if (i != person && people.canSwap(person, i) && agrees(people, person, i)) {
                    people.swap(person, i);
                    int reached = bestEnd(game, people, turn + 1, turns);
                    people.swapBack(person, i);
                    if (worthIn(people, reached, person) > worthIn(people, best, person)) {
                        best = reached;
                        from = i;
                    }
                }
            }
            if (turn == 0) {
                game.opening = from;
            }
            return best;
        }

        private static boolean agrees(People people, int person, int other) {
            return people.worthOf(other, people.held[person])
                >= people.worthOf(other, people.held[other]);
        }

        private static int allThings(People people) {
            int all = 0;
            for (int i = 0; i < people.count; i++) {
                int thing = people.held[i] == NONE ? NOTHING : people.held[i];
                all |= thing << (3 * i);
            }
            return all;
        }

        private static int thingIn(int all, int person) {
            int thing = (all >>> (3 * person)) & 7;
            return thing == NOTHING ? NONE : thing;
        }

        private static int worthIn(People people, int all, int person) {
            return people.worthOf(person, thingIn(all, person));
        }
    }

    /** The hidden list of a stranger, by what it took and refused. */
    private static final class Sights {
        int count;
        private final int[] sorts = new int[MOST_SIGHTS];
        private final boolean[] tooks = new boolean[MOST_SIGHTS];

        void add(int sort, boolean took) {
            if (count < MOST_SIGHTS) {
                sorts[count] = sort;
                tooks[count] = took;
                count++;
            }
        }

        /** Whether what was seen of a sort fits that it was on the list at first, or was not. */
        private boolean fits(int sort, boolean atFirst) {
            boolean on = atFirst;
            for (int i = 0; i < count; i++) {
                if (sorts[i] == sort) {
                    if (tooks[i] == on) {
                        return false;
                    }
                    on = true;
                }
            }
            return true;
        }

        // A sight of one sort tells nothing of another: the ways of all sorts are multiplied.
        int fittingLists() {
            int ways = 1;
            for (int sort = 0; sort < SORTS; sort++) {
                int on = fits(sort, true) ? 1 : 0;
                int off = fits(sort, false) ? 1 : 0;
                ways *= on + off;
            }
            return ways;
        }

        int hadAtFirst(int sort) {
            if (fittingLists() == 0) {
                return NONE;
            }
            if (!fits(sort, true)) {
                return 0;
            }
            return fits(sort, false) ? 2 : 1;
        }
    }

    /** What people held and had had, to go on from. */
    private static final class Slot {
        boolean filled;
        private final int[] held = new int[MOST_PEOPLE];
        private final int[] known = new int[MOST_PEOPLE];

        void store(People people) {
            System.arraycopy(people.held, 0, held, 0, MOST_PEOPLE);
            System.arraycopy(people.known, 0, known, 0, MOST_PEOPLE);
            filled = true;
        }

        void restore(People people) {
            System.arraycopy(held, 0, people.held, 0, MOST_PEOPLE);
            System.arraycopy(known, 0, people.known, 0, MOST_PEOPLE);
        }
    }
}
