/**
 * A desk for composing changes on bells: a method by its places, calls that
 * change the ends of its leads, touches proved true row by row, and searched
 * for, and counted, in order.
 */
public final class RungTouches {
    public static final int NONE = -1;

    private static final int FEWEST_BELLS = 4;
    private static final int MOST_BELLS = 6;
    private static final int TREBLE = 1;

    /** The rank of rounds. */
    private static final int ROUNDS = 0;

    /** The orders of six bells, and also 30 leads of 24 changes. */
    private static final int MOST_ROWS = 720;

    private static final int MOST_MASKS = 24;
    private static final int MOST_CALLS = 30;
    private static final int MOST_BUDGET = 2000;
    private static final int PATTERNS = 4;

    private static final int PLAIN = 0;
    private static final int BOB = 1;
    private static final int SINGLE = 2;

    private static final int DEFINED = 0;
    private static final int MASKS_LACK = 1;
    private static final int TREBLE_AWAY = 2;
    private static final int METHOD_STANDS = 3;

    private static final int NOT_FOUND = 0;
    private static final int FOUND = 1;
    private static final int BUDGET_SPENT = 2;

    private final Row row = new Row();
    private final Method method = new Method();
    private final Ringing ringing = new Ringing(method, row);
    private final Looking looking = new Looking(method, ringing);
    private final int[] touch = new int[MOST_CALLS];
    private final int[][] patterns = new int[PATTERNS][MOST_BELLS];
    private int touchCalls = 0;

    public RungTouches() {
        beginWith(MOST_BELLS);
    }

    public boolean bells(int n) {
        if (n < FEWEST_BELLS || n > MOST_BELLS) {
            return false;
        }
        beginWith(n);
        return true;
    }

    public boolean notation(int i, int mask) {
        if (method.isDefined() || i < 0 || i >= MOST_MASKS || !isGood(mask)) {
            return false;
        }
        method.giveMask(i, mask);
        return true;
    }

    public boolean callNotation(int kind, int mask) {
        if ((kind != BOB && kind != SINGLE) || !isGood(mask) || touchHas(kind)) {
            return false;
        }
        method.giveCallMask(kind, mask);
        return true;
    }

    public int define(int len) {
        if (method.isDefined()) {
            return METHOD_STANDS;
        }
        if (len < 1 || len > MOST_MASKS || !method.hasFirstMasks(len)) {
            return MASKS_LACK;
        }
        if (!ringing.trebleComesHome(len)) {
            return TREBLE_AWAY;
        }
        method.becomeOfLength(len);
        return DEFINED;
    }

    public int call(int kind) throws IllegalStateException, IllegalArgumentException, UnsupportedOperationException {
        needMethod();
        if (!method.hasCall(kind)) {
            throw new IllegalArgumentException("no such call, or no mask for it");
        }
        if (touchCalls == MOST_CALLS) {
            throw new UnsupportedOperationException("the touch has 30 calls");
        }
        touch[touchCalls] = kind;
        touchCalls++;
        return touchCalls;
    }

    public boolean change(int k, int kind) {
        if (k < 0 || k >= touchCalls || !method.hasCall(kind)) {
            return false;
        }
        touch[k] = kind;
        return true;
    }

    public boolean keep(int k) {
        if (k < 0 || k > touchCalls) {
            return false;
        }
        touchCalls = k;
        return true;
    }

    public int calls() {
        return touchCalls;
    }

    public int callAt(int k) {
        return k < 0 || k >= touchCalls ? NONE : touch[k];
    }

    public int prove() {
        ringing.startInRounds();
        for (int k = 0; k < touchCalls; k++) {
            int repeated = ringing.ringLead(touch[k]);
            if (repeated != 0) {
                return ringing.endsTrue(repeated, touchCalls) ? 0 : repeated;
            }
        }
        return touchCalls == 0 ? 0 : NONE;
    }

    public int rows() {
        return touchCalls * method.leadLength();
    }

    public int bell(int i, int place) {
        if (i < 0 || i > rows() || !hasPlace(place)) {
            return NONE;
        }
        goToRow(i);
        return row.bellAt(place);
    }

    public int rank(int i) {
        if (i < 0 || i > rows()) {
            return NONE;
        }
        goToRow(i);
        return row.findRank();
    }

    public int unrank(int rank, int place) {
        if (!row.canHaveRank(rank) || !hasPlace(place)) {
            return NONE;
        }
        row.becomeRank(rank);
        return row.bellAt(place);
    }

    public int course() throws IllegalStateException {
        needMethod();
        return ringing.plainLeadsToRounds();
    }

    public boolean falseLeads(int a, int b) throws IllegalStateException, IllegalArgumentException {
        needMethod();
        if (!row.canHaveRank(a) || !row.canHaveRank(b)) {
            throw new IllegalArgumentException("no such rank");
        }
        return ringing.plainLeadsMeet(a, b);
    }

    public int search(int least, int most, int budget) throws IllegalStateException, IllegalArgumentException {
        needMethod();
        needLimits(least, most, budget);
        looking.lookForFirst(least, most, budget);
        if (looking.foundLists() > 0) {
            touchCalls = looking.copyFoundList(touch);
            return FOUND;
        }
        return looking.wasSpent() ? BUDGET_SPENT : NOT_FOUND;
    }

    public int count(int rows, int budget) throws IllegalStateException, IllegalArgumentException {
        needMethod();
        needLimits(rows, rows, budget);
        looking.lookForAll(rows, budget);
        return looking.wasSpent() ? NONE : looking.foundLists();
    }

    public int looked() {
        return looking.lookedLists();
    }

    public boolean pattern(int slot, int place, int bell) {
        if (!hasPattern(slot) || !hasPlace(place) || bell < 0 || bell > row.length()) {
            return false;
        }
        patterns[slot][place - 1] = bell;
        return true;
    }

    public int music(int slot) {
        if (!hasPattern(slot)) {
            return NONE;
        }
        int matching = 0;
        row.becomeRank(ROUNDS);
        for (int k = 0; k < touchCalls; k++) {
            for (int step = 0; step < method.leadLength(); step++) {
                row.changeBy(method.maskFor(touch[k], step));
                if (row.matches(patterns[slot])) {
                    matching++;
                }
            }
        }
        return matching;
    }

    private void beginWith(int bellCount) {
        row.resize(bellCount);
        method.forget();
        looking.forget();
        touchCalls = 0;
        for (int slot = 0; slot < PATTERNS; slot++) {
            for (int place = 1; place <= MOST_BELLS; place++) {
                patterns[slot][place - 1] = 0;
            }
        }
    }

    private void needMethod() {
        if (!method.isDefined()) {
            throw new IllegalStateException("there is no method");
        }
    }

    private static void needLimits(int least, int most, int budget) {
        if (least < 1 || most < least || most > MOST_ROWS) {
            throw new IllegalArgumentException("not 1 <= least <= most <= 720");
        }
        if (budget < 1 || budget > MOST_BUDGET) {
            throw new IllegalArgumentException("budget is not 1 .. 2000");
        }
    }

    private boolean hasPlace(int place) {
        return place >= 1 && place <= row.length();
    }

    private static boolean hasPattern(int slot) {
        return slot >= 0 && slot < PATTERNS;
    }

    /** Whether the mask has no places but those there are, and leaves even stretches between them. */
    private boolean isGood(int mask) {
        if (mask < 0 || mask >= 1 << row.length()) {
            return false;
        }
        int stretch = 0;
        for (int place = 1; place <= row.length(); place++) {
            if (!hasInMask(mask, place)) {
                stretch++;
            } else if (stretch % 2 != 0) {
                return false;
            } else {
                stretch = 0;
            }
        }
        return stretch % 2 == 0;
    }

    private static boolean hasInMask(int mask, int place) {
        return (mask >> (place - 1) & 1) != 0;
    }

    private boolean touchHas(int kind) {
        for (int k = 0; k < touchCalls; k++) {
            if (touch[k] == kind) {
                return true;
            }
        }
        return false;
    }

    /** Makes row i of the touch the row at hand. */
    private void goToRow(int i) {
        row.becomeRank(ROUNDS);
        int number = 0;
        for (int k = 0; k < touchCalls && number < i; k++) {
            for (int step = 0; step < method.leadLength() && number < i; step++) {
                row.changeBy(method.maskFor(touch[k], step));
                number++;
            }
        }
    }

    /** One row, changed in place, so that no run of changes makes objects. */
    private static final class Row {
        private static final int[] FACTORIALS = {1, 1, 2, 6, 24, 120, 720};

        private final int[] order = new int[MOST_BELLS];
        private int size = MOST_BELLS;

        void resize(int bellCount) {
            size = bellCount;
        }

        int length() {
            return size;
        }

        boolean canHaveRank(int rank) {
            return rank >= 0 && rank < FACTORIALS[size];
        }

        void becomeRank(int rank) {
            for (int p = 0; p < size; p++) {
                order[p] = p + 1;
            }
            int rest = rank;
            for (int p = 0; p < size; p++) {
                int rowsPerBell = FACTORIALS[size - 1 - p];
                bringForward(p + rest / rowsPerBell, p);
                rest %= rowsPerBell;
            }
        }

        /** The bells passed over keep their order, so those behind p go on rising. */
        private void bringForward(int from, int p) {
            int brought = order[from];
            for (int q = from; q > p; q--) {
                order[q] = order[q - 1];
            }
            order[p] = brought;
        }

        int findRank() {
            int rank = 0;
            int bellsBehind = (1 << size) - 1;
            for (int p = 0; p < size; p++) {
                int self = 1 << (order[p] - 1);
                bellsBehind &= ~self;
                int lesser = Integer.bitCount(bellsBehind & (self - 1));
                rank += lesser * FACTORIALS[size - 1 - p];
            }
            return rank;
        }

        /** For a good mask alone: there a place outside it has its partner next to it. */
        void changeBy(int mask) {
            int place = 1;
            while (place < size) {
                if (hasInMask(mask, place)) {
                    place++;
                } else {
                    int moved = order[place - 1];
                    order[place - 1] = order[place];
                    order[place] = moved;
                    place += 2;
                }
            }
        }

        int bellAt(int place) {
            return order[place - 1];
        }

        boolean matches(int[] pattern) {
            for (int p = 0; p < size; p++) {
                if (pattern[p] != 0 && pattern[p] != order[p]) {
                    return false;
                }
            }
            return true;
        }
    }

    /** The masks that were given, and how many of them are the method. */
    private static final class Method {
        private static final int NOT_GIVEN = -1;

        private final int[] masks = new int[MOST_MASKS];
        private int bobMask = NOT_GIVEN;
        private int singleMask = NOT_GIVEN;
        private int length = 0;

        void forget() {
            for (int i = 0; i < MOST_MASKS; i++) {
                masks[i] = NOT_GIVEN;
            }
            bobMask = NOT_GIVEN;
            singleMask = NOT_GIVEN;
            length = 0;
        }

        void giveMask(int i, int mask) {
            masks[i] = mask;
        }

        void giveCallMask(int kind, int mask) {
            if (kind == BOB) {
                bobMask = mask;
            } else {
                singleMask = mask;
            }
        }

        boolean hasFirstMasks(int len) {
            for (int i = 0; i < len; i++) {
                if (masks[i] == NOT_GIVEN) {
                    return false;
                }
            }
            return true;
        }

        boolean hasCall(int kind) {
            return kind == PLAIN && isDefined()
                    || kind == BOB && bobMask != NOT_GIVEN
                    || kind == SINGLE && singleMask != NOT_GIVEN;
        }

        void becomeOfLength(int len) {
            length = len;
        }

        boolean isDefined() {
            return length > 0;
        }

        int leadLength() {
            return length;
        }

        /** The mask of a change (from 0) in a lead by a call. */
        int maskFor(int kind, int step) {
            if (kind == PLAIN || step != length - 1) {
                return masks[step];
            }
            return kind == BOB ? bobMask : singleMask;
        }
    }

    /** Different rows by their ranks, numbered from 0 in the order in which they came. */
    private static final class RowSet {
        private final int[] ranks = new int[MOST_ROWS];

        // A number counts only if that rank stands there: so rows can be dropped without clearing it.
        private final int[] numbers = new int[MOST_ROWS];
        private int size = 0;

        int length() {
            return size;
        }

        int rankAt(int number) {
            return ranks[number];
        }

        boolean has(int rank) {
            int number = numbers[rank];
            return number < size && ranks[number] == rank;
        }

        void add(int rank) {
            if (has(rank)) {
                return;
            }
            ranks[size] = rank;
            numbers[rank] = size;
            size++;
        }

        void dropFrom(int number) {
            size = number;
        }
    }

    /** Rings leads and tells which of their rows were rung before. */
    private static final class Ringing {
        private final Method method;
        private final Row row;
        private final RowSet rung = new RowSet();

        Ringing(Method method, Row row) {
            this.method = method;
            this.row = row;
        }

        void startInRounds() {
            row.becomeRank(ROUNDS);
            rung.dropFrom(0);
            rung.add(ROUNDS);
        }

        /** Forgets the rows behind one that was rung without a repeated row, to go on from there. */
        void goBackTo(int number) {
            rung.dropFrom(number + 1);
            row.becomeRank(rung.rankAt(number));
        }

        /** Rings on until a row was rung before, and answers its number; 0 when the lead has none such. */
        int ringLead(int kind) {
            for (int step = 0; step < method.leadLength(); step++) {
                row.changeBy(method.maskFor(kind, step));
                int rank = row.findRank();
                if (rung.has(rank)) {
                    return rung.length();
                }
                rung.add(rank);
            }
            return 0;
        }

        /** Whether the row that stopped ringLead() is the rounds that so many calls are to end in. */
        boolean endsTrue(int stoppedAt, int calls) {
            return stoppedAt == calls * method.leadLength() && row.findRank() == ROUNDS;
        }

        boolean trebleComesHome(int len) {
            row.becomeRank(ROUNDS);
            for (int step = 0; step < len; step++) {
                row.changeBy(method.maskFor(PLAIN, step));
            }
            return row.bellAt(1) == TREBLE;
        }

        int plainLeadsToRounds() {
            row.becomeRank(ROUNDS);
            int leads = 0;
            do {
                for (int step = 0; step < method.leadLength(); step++) {
                    row.changeBy(method.maskFor(PLAIN, step));
                }
                leads++;
            } while (row.findRank() != ROUNDS && leads < MOST_ROWS);
            return leads;
        }

        boolean plainLeadsMeet(int a, int b) {
            rung.dropFrom(0);
            row.becomeRank(a);
            for (int step = 0; step < method.leadLength(); step++) {
                row.changeBy(method.maskFor(PLAIN, step));
                rung.add(row.findRank());
            }
            row.becomeRank(b);
            for (int step = 0; step < method.leadLength(); step++) {
                row.changeBy(method.maskFor(PLAIN, step));
                if (rung.has(row.findRank())) {
                    return true;
                }
            }
            return false;
        }
    }

    /** Looks through lists of calls for true ones. */
    private static final class Looking {
        private final Method method;
        private final Ringing ringing;
        private final int[] list = new int[MOST_CALLS];
        private int listCalls = 0;
        private int least = 0;
        private int most = 0;
        private int budget = 0;
        private boolean firstOnly = false;
        private int lookedAt = 0;
        private int found = 0;
        private boolean spent = false;

        Looking(Method method, Ringing ringing) {
            this.method = method;
            this.ringing = ringing;
        }

        void forget() {
            lookedAt = 0;
        }

        void lookForFirst(int leastRows, int mostRows, int mostLists) {
            firstOnly = true;
            lookThrough(leastRows, mostRows, mostLists);
        }

        void lookForAll(int rowsDue, int mostLists) {
            firstOnly = false;
            lookThrough(rowsDue, rowsDue, mostLists);
        }

        int lookedLists() {
            return lookedAt;
        }

        int foundLists() {
            return found;
        }

        boolean wasSpent() {
            return spent;
        }

        /** Answers how many calls the list has that ended lookForFirst(). */
        int copyFoundList(int[] target) {
            for (int k = 0; k < listCalls; k++) {
                target[k] = list[k];
            }
            return listCalls;
        }

        private void lookThrough(int leastRows, int mostRows, int mostLists) {
            least = leastRows;
            most = mostRows;
            budget = mostLists;
            lookedAt = 0;
            found = 0;
            spent = false;
            ringing.startInRounds();
            lookBehind(0);
        }

        private void lookBehind(int calls) {
            if (calls >= MOST_CALLS || (calls + 1) * method.leadLength() > most) {
                return;
            }
            for (int kind = PLAIN; kind <= SINGLE && !hasEnded(); kind++) {
                if (method.hasCall(kind)) {
                    lookAt(calls, kind);
                }
            }
        }

        private boolean hasEnded() {
            return spent || firstOnly && found > 0;
        }

        private void lookAt(int calls, int kind) {
            if (lookedAt == budget) {
                spent = true;
                return;
            }
            lookedAt++;
            list[calls] = kind;
            ringing.goBackTo(calls * method.leadLength());
            int repeated = ringing.ringLead(kind);
            if (repeated == 0) {
                lookBehind(calls + 1);
            } else if (repeated >= least && ringing.endsTrue(repeated, calls + 1)) {
                found++;
                listCalls = calls + 1;
            }
        }
    }
}
