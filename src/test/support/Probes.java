import java.util.ArrayList;
import java.util.List;

/**
 * Runs of calls that together show all that a desk holds. What no answer tells by itself, such as masks and patterns,
 * is shown by what comes of it; each run is for a desk of its own, since it changes what it finds.
 */
public final class Probes {
    /** Two masks for each number of bells from 4 on: by turns they bring every bell to every place. */
    private static final int[][] HUNTING = {{0, 9}, {16, 1}, {0, 33}};

    private static final int MOST_ROWS_READ = 30;

    private final Situation situation;
    private final List<List<Asked>> runs = new ArrayList<>();
    private List<Asked> run;

    private Probes(Situation situation) {
        this.situation = situation;
    }

    public static List<List<Asked>> of(Situation situation) {
        Probes probes = new Probes(situation);
        probes.addReads();
        probes.addRows();
        probes.addCallMasks();
        probes.addPatterns();
        if (situation.hasMethod()) {
            probes.addMethod();
            probes.addLooks();
        } else {
            for (int i = 0; i < 24; i++) {
                probes.addMask(i);
            }
        }
        return probes.runs;
    }

    /** The calls that only ask, in one run: what they answer is to be the same before and behind a refused call. */
    public static List<Asked> reads(Situation situation) {
        Probes probes = new Probes(situation);
        probes.addReads();
        return probes.runs.get(0);
    }

    private void begin() {
        run = new ArrayList<>();
        runs.add(run);
    }

    private void ask(String name, int... arguments) {
        run.add(new Asked(name, arguments));
    }

    private void addReads() {
        begin();
        ask("calls");
        ask("rows");
        ask("prove");
        ask("looked");
        ask("course");
        ask("falseLeads", 0, 1);
        for (int k = -1; k <= 30; k++) {
            ask("callAt", k);
        }
        for (int slot = 0; slot < 4; slot++) {
            ask("music", slot);
        }
        for (int place = 0; place <= 7; place++) {
            ask("bell", 0, place);
            ask("unrank", 23, place);
            ask("unrank", 119, place);
            ask("unrank", 719, place);
        }
        for (int i = -1; i <= MOST_ROWS_READ + 1; i++) {
            ask("rank", i);
        }
    }

    private void addRows() {
        begin();
        for (int i = -1; i <= MOST_ROWS_READ + 1; i++) {
            for (int place = 0; place <= situation.bells() + 1; place++) {
                ask("bell", i, place);
            }
        }
    }

    private void ringNothingBut(int kind, int lastRow) {
        ask("keep", 0);
        ask("call", kind);
        ask("rank", lastRow);
    }

    private void addCallMasks() {
        begin();
        int lead = situation.leadLength();
        if (!situation.hasMethod()) {
            lead = 1;
            ask("notation", 0, (1 << situation.bells()) - 1);
            ask("define", 1);
        }
        ringNothingBut(1, lead);
        ringNothingBut(2, lead);
    }

    /** Music by one place of a pattern alone, call by call: which rows match tells the bell. */
    private void addPatterns() {
        for (int slot = 0; slot < 4; slot++) {
            for (int place = 1; place <= situation.bells(); place++) {
                begin();
                for (int other = 1; other <= situation.bells(); other++) {
                    if (other != place) {
                        ask("pattern", slot, other, 0);
                    }
                }
                if (situation.hasMethod()) {
                    ringLeadsFor(slot);
                } else {
                    huntFor(slot);
                }
            }
        }
    }

    private void ringLeadsFor(int slot) {
        ask("music", slot);
        ask("keep", 0);
        for (int k = 0; k < 3; k++) {
            ask("call", 0);
            ask("music", slot);
        }
    }

    private void huntFor(int slot) {
        int[] masks = HUNTING[situation.bells() - 4];
        ask("notation", 0, (1 << situation.bells()) - 1);
        ask("define", 1);
        ask("callNotation", 1, masks[0]);
        ask("callNotation", 2, masks[1]);
        for (int k = 0; k < 2 * situation.bells(); k++) {
            ask("call", 1 + k % 2);
            ask("music", slot);
        }
    }

    private void addMethod() {
        begin();
        ask("notation", 0, (1 << situation.bells()) - 1);
        ask("define", 1);
        ask("keep", 0);
        ask("call", 0);
        ask("call", 0);
        ask("rows");
        for (int i = 0; i <= 2 * situation.leadLength(); i++) {
            ask("rank", i);
        }
    }

    private void addLooks() {
        begin();
        ask("search", 2, 24, 60);
        ask("looked");
        for (int k = 0; k <= 24; k++) {
            ask("callAt", k);
        }
        ask("count", situation.leadLength(), 60);
        ask("looked");
    }

    /** Mask i behind changes that move nothing, and before one that brings the treble home. */
    private void addMask(int i) {
        begin();
        int still = (1 << situation.bells()) - 1;
        for (int before = 0; before < i; before++) {
            ask("notation", before, still);
        }
        ask("define", i + 1);
        ask("notation", i + 1, still - 3);
        ask("define", i + 2);
        ask("call", 0);
        ask("rank", i + 1);
    }
}
