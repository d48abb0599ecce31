import java.util.ArrayList;
import java.util.Arrays;
import java.util.Collections;
import java.util.HashSet;
import java.util.List;
import java.util.Set;

/** The document's words put into code as literally as can be, without care for speed or room. */
public final class ModelDesk {
    private int n;
    private Integer[] masks;
    private Integer[] callMasks;
    private List<Integer> method;
    private List<Integer> touch;
    private int[][] patterns;
    private int looked;
    private List<List<Integer>> allRows;

    private int budgetLeft;
    private boolean spent;
    private int trueLists;
    private List<Integer> firstTrue;

    public ModelDesk() {
        bells(6);
    }

    public boolean bells(int bells) {
        if (bells < 4 || bells > 6) {
            return false;
        }
        n = bells;
        masks = new Integer[24];
        callMasks = new Integer[3];
        method = null;
        touch = new ArrayList<>();
        patterns = new int[4][7];
        looked = 0;
        allRows = new ArrayList<>();
        listRows(new ArrayList<>());
        return true;
    }

    private void listRows(List<Integer> begun) {
        if (begun.size() == n) {
            allRows.add(new ArrayList<>(begun));
            return;
        }
        for (int bell = 1; bell <= n; bell++) {
            if (!begun.contains(bell)) {
                begun.add(bell);
                listRows(begun);
                begun.remove(begun.size() - 1);
            }
        }
    }

    public boolean good(int mask) {
        if (mask < 0 || mask >= Math.pow(2, n)) {
            return false;
        }
        StringBuilder places = new StringBuilder();
        for (int place = 1; place <= n; place++) {
            places.append((mask / (int) Math.pow(2, place - 1)) % 2 == 1 ? "x" : "-");
        }
        for (String stretch : places.toString().split("x")) {
            if (stretch.length() % 2 == 1) {
                return false;
            }
        }
        return true;
    }

    private static List<Integer> changed(List<Integer> row, int mask) {
        List<Integer> next = new ArrayList<>(row);
        int first = -1;
        for (int p = 0; p < row.size(); p++) {
            if ((mask & 1 << p) != 0) {
                first = -1;
            } else if (first < 0) {
                first = p;
            } else {
                Collections.swap(next, first, p);
                first = -1;
            }
        }
        return next;
    }

    private List<List<Integer>> lead(List<Integer> from, int kind) {
        List<List<Integer>> rows = new ArrayList<>();
        List<Integer> row = from;
        for (int i = 0; i < method.size(); i++) {
            boolean called = i == method.size() - 1 && kind > 0;
            row = changed(row, called ? callMasks[kind] : method.get(i));
            rows.add(row);
        }
        return rows;
    }

    private List<Integer> rounds() {
        return allRows.get(0);
    }

    private List<List<Integer>> rowsOf(List<Integer> calls) {
        List<List<Integer>> rows = new ArrayList<>();
        rows.add(rounds());
        for (int kind : calls) {
            rows.addAll(lead(rows.get(rows.size() - 1), kind));
        }
        return rows;
    }

    private int firstRepeated(List<List<Integer>> rows) {
        Set<List<Integer>> earlier = new HashSet<>();
        int last = rows.size() - 1;
        for (int i = 0; i <= last; i++) {
            boolean isEnd = i == last && rows.get(i).equals(rounds());
            if (i > 0 && earlier.contains(rows.get(i)) && !isEnd) {
                return i;
            }
            // Rounds before the end is found above, so a row that gets here as the end has none between.
            earlier.add(rows.get(i));
        }
        return 0;
    }

    private boolean isTrue(List<Integer> calls) {
        List<List<Integer>> rows = rowsOf(calls);
        return !calls.isEmpty() && rows.get(rows.size() - 1).equals(rounds()) && firstRepeated(rows) == 0;
    }

    public boolean notation(int i, int mask) {
        if (method != null || i < 0 || i > 23 || !good(mask)) {
            return false;
        }
        masks[i] = mask;
        return true;
    }

    public boolean callNotation(int kind, int mask) {
        if (kind < 1 || kind > 2 || !good(mask) || touch.contains(kind)) {
            return false;
        }
        callMasks[kind] = mask;
        return true;
    }

    public int define(int len) {
        if (method != null) {
            return 3;
        }
        if (len < 1 || len > 24 || Arrays.asList(masks).subList(0, len).contains(null)) {
            return 1;
        }
        List<Integer> row = rounds();
        for (int i = 0; i < len; i++) {
            row = changed(row, masks[i]);
        }
        if (row.get(0) != 1) {
            return 2;
        }
        method = new ArrayList<>(Arrays.asList(masks).subList(0, len));
        return 0;
    }

    private boolean hasCall(int kind) {
        return kind == 0 || kind > 0 && kind < 3 && callMasks[kind] != null;
    }

    private void needMethod() {
        if (method == null) {
            throw new IllegalStateException();
        }
    }

    public int call(int kind) {
        needMethod();
        if (!hasCall(kind)) {
            throw new IllegalArgumentException();
        }
        if (touch.size() == 30) {
            throw new UnsupportedOperationException();
        }
        touch.add(kind);
        return touch.size();
    }

    public boolean change(int k, int kind) {
        if (k < 0 || k >= touch.size() || !hasCall(kind)) {
            return false;
        }
        touch.set(k, kind);
        return true;
    }

    public boolean keep(int k) {
        if (k < 0 || touch.size() < k) {
            return false;
        }
        touch = new ArrayList<>(touch.subList(0, k));
        return true;
    }

    public int calls() {
        return touch.size();
    }

    public int callAt(int k) {
        return k >= 0 && k < touch.size() ? touch.get(k) : -1;
    }

    public int prove() {
        if (touch.isEmpty() || isTrue(touch)) {
            return 0;
        }
        int repeated = firstRepeated(rowsOf(touch));
        return repeated > 0 ? repeated : -1;
    }

    public int rows() {
        return rowsOf(touch).size() - 1;
    }

    public int bell(int i, int place) {
        return i < 0 || i > rows() || place < 1 || place > n ? -1 : rowsOf(touch).get(i).get(place - 1);
    }

    public int rank(int i) {
        return i < 0 || i > rows() ? -1 : allRows.indexOf(rowsOf(touch).get(i));
    }

    public int unrank(int rank, int place) {
        return rank < 0 || rank >= allRows.size() || place < 1 || place > n ? -1 : allRows.get(rank).get(place - 1);
    }

    public int course() {
        needMethod();
        List<Integer> row = rounds();
        int leads = 0;
        do {
            row = lead(row, 0).get(method.size() - 1);
            leads++;
        } while (!row.equals(rounds()));
        return leads;
    }

    public boolean falseLeads(int a, int b) {
        needMethod();
        if (a < 0 || b < 0 || a >= allRows.size() || b >= allRows.size()) {
            throw new IllegalArgumentException();
        }
        return !Collections.disjoint(lead(allRows.get(a), 0), lead(allRows.get(b), 0));
    }

    private void needLimits(int least, int most, int budget) {
        if (!(1 <= least && least <= most && most <= 720) || !(1 <= budget && budget <= 2000)) {
            throw new IllegalArgumentException();
        }
    }

    private void lookThrough(int least, int most, int budget, boolean firstOnly) {
        looked = 0;
        budgetLeft = budget;
        spent = false;
        trueLists = 0;
        firstTrue = null;
        lookBehind(new ArrayList<>(), least, most, firstOnly);
    }

    private void lookBehind(List<Integer> list, int least, int most, boolean firstOnly) {
        for (int kind = 0; kind < 3; kind++) {
            List<Integer> longer = new ArrayList<>(list);
            longer.add(kind);
            if (!hasCall(kind) || longer.size() > 30 || longer.size() * method.size() > most) {
                continue;
            }
            if (budgetLeft == 0) {
                spent = true;
                return;
            }
            budgetLeft--;
            looked++;
            List<List<Integer>> rows = rowsOf(longer);
            if (isTrue(longer) && rows.size() - 1 >= least) {
                trueLists++;
                firstTrue = firstTrue == null ? longer : firstTrue;
            }
            if (firstOnly && firstTrue != null) {
                return;
            }
            if (firstRepeated(rows) == 0 && !rows.get(rows.size() - 1).equals(rounds())) {
                lookBehind(longer, least, most, firstOnly);
            }
            if (spent || firstOnly && firstTrue != null) {
                return;
            }
        }
    }

    public int search(int least, int most, int budget) {
        needMethod();
        needLimits(least, most, budget);
        lookThrough(least, most, budget, true);
        if (firstTrue != null) {
            touch = firstTrue;
            return 1;
        }
        return spent ? 2 : 0;
    }

    public int count(int rows, int budget) {
        needMethod();
        needLimits(rows, rows, budget);
        lookThrough(rows, rows, budget, false);
        return spent ? -1 : trueLists;
    }

    public int looked() {
        return looked;
    }

    public boolean pattern(int slot, int place, int bell) {
        if (slot < 0 || slot > 3 || place < 1 || place > n || bell < 0 || bell > n) {
            return false;
        }
        patterns[slot][place] = bell;
        return true;
    }

    public int music(int slot) {
        if (slot < 0 || slot > 3) {
            return -1;
        }
        int matching = 0;
        List<List<Integer>> rows = rowsOf(touch);
        for (List<Integer> row : rows.subList(1, rows.size())) {
            boolean matches = true;
            for (int place = 1; place <= n; place++) {
                int bell = patterns[slot][place];
                matches &= bell == 0 || bell == row.get(place - 1);
            }
            matching += matches ? 1 : 0;
        }
        return matching;
    }
}
