/** Runs of calls, drawn by a counter of its own, on the program and on the model of the document: all answers agree. */
public final class ModelTest {
    private static final int RUNS = 400;
    private static final int CALLS_MOST = 512;
    private static final int[] ODD_NUMBERS = {Integer.MIN_VALUE, -2, -1, 0, 1, 31, 64, 720, 721, Integer.MAX_VALUE};

    private final Check check = new Check("ModelTest");
    private long seed = 0;
    private int run = 0;
    private int made = 0;
    private int bellCount = 6;
    private RungTouches program;
    private ModelDesk model;

    public static void main(String[] args) {
        ModelTest test = new ModelTest();
        for (int run = 1; run <= RUNS && !test.check.hasFailed(); run++) {
            test.doRun(run);
        }
        test.check.done();
    }

    private void doRun(int number) {
        run = number;
        seed = number * 7919L;
        made = 0;
        bellCount = 6;
        program = new RungTouches();
        model = new ModelDesk();
        int due = 20 + below(120);
        setUp();
        while (made < due && made < CALLS_MOST && !check.hasFailed()) {
            drawCall();
            if (chance(3)) {
                lookAround();
            }
        }
    }

    private int below(int bound) {
        seed = seed * 6364136223846793005L + 1442695040888963407L;
        return (int) ((seed >>> 33) % bound);
    }

    private boolean chance(int percent) {
        return below(100) < percent;
    }

    /** Mostly a number from low to high, and at times one that lies just outside, or far away. */
    private int near(int low, int high) {
        if (chance(3)) {
            return ODD_NUMBERS[below(ODD_NUMBERS.length)];
        }
        if (chance(6)) {
            return chance(50) ? low - 1 : high + 1;
        }
        return low + below(high - low + 1);
    }

    private void ask(String name, int... arguments) {
        if (made == CALLS_MOST) {
            return;
        }
        made++;
        Asked call = new Asked(name, arguments);
        check.same("run " + run + ", call " + made + ": " + call, call.of(program), call.of(model));
    }

    private int askBells(int n) {
        ask("bells", n);
        return n >= 4 && n <= 6 ? n : bellCount;
    }

    private int anyMask() {
        return chance(5) ? near(0, 64) : below(1 << bellCount);
    }

    private int goodMask() {
        for (int tries = 0; tries < 200; tries++) {
            int mask = below(1 << bellCount);
            if (model.good(mask)) {
                return mask;
            }
        }
        return (1 << bellCount) - 1;
    }

    private void setUp() {
        bellCount = chance(90) ? askBells(4 + below(3)) : bellCount;
        for (int i = 0; i < 24 && chance(70); i++) {
            ask("notation", i, goodMask());
        }
        int way = below(4);
        if (way == 0) {
            setUpPlainBob();
        } else if (way == 1) {
            setUpPalindrome();
        } else {
            setUpShort();
        }
        if (chance(85)) {
            ask("callNotation", 1, chance(30) ? 9 : goodMask());
        }
        if (chance(75)) {
            ask("callNotation", 2, chance(30) ? 15 : goodMask());
        }
    }

    private void setUpPlainBob() {
        int crossing = bellCount == 5 ? 16 : 0;
        int ends = bellCount == 5 ? 1 : 1 | 1 << (bellCount - 1);
        int len = 2 * bellCount;
        for (int i = 0; i < len; i++) {
            ask("notation", i, i % 2 == 0 ? crossing : ends);
        }
        ask("notation", len - 1, bellCount == 5 ? 7 : 3);
        ask("define", len);
    }

    /** The same masks back again bring the treble home if the one in the middle leaves it in its place. */
    private void setUpPalindrome() {
        int half = 1 + below(11);
        for (int i = 0; i < half; i++) {
            int mask = goodMask();
            ask("notation", i, mask);
            ask("notation", 2 * half - i, mask);
        }
        ask("notation", half, goodMask());
        int last = 2 * half + 1;
        if (last < 24) {
            ask("notation", last, chance(50) ? 3 + (bellCount == 5 ? 4 : 0) : goodMask());
            ask("define", last + 1);
        }
        ask("define", last);
    }

    private void setUpShort() {
        int len = 1 + below(5);
        for (int tries = 0; tries < 6; tries++) {
            for (int i = 0; i < len; i++) {
                ask("notation", i, goodMask());
            }
            ask("define", len);
        }
    }

    private void drawCall() {
        int kind = below(100);
        if (kind < 25) {
            drawTouchCall();
        } else if (kind < 60) {
            drawRowCall();
        } else if (kind < 75) {
            drawLook();
        } else if (kind < 90) {
            drawMusic();
        } else {
            drawSetting();
        }
    }

    private void drawTouchCall() {
        int which = below(10);
        int kind = near(0, 2);
        int k = near(0, Math.max(0, model.calls() - 1));
        if (which < 6) {
            ask("call", kind);
        } else if (which < 8) {
            ask("change", k, kind);
        } else {
            ask("keep", near(model.calls() / 2, model.calls()));
        }
        if (chance(4)) {
            fillTouch();
        }
    }

    private void fillTouch() {
        for (int k = 0; k < 31; k++) {
            ask("call", chance(70) ? 0 : below(3));
        }
    }

    private void drawRowCall() {
        int i = near(0, model.rows());
        int place = near(1, bellCount);
        int ranks = bellCount == 4 ? 24 : bellCount == 5 ? 120 : 720;
        int a = near(0, ranks - 1);
        int b = near(0, ranks - 1);
        switch (below(7)) {
            case 0 -> ask("prove");
            case 1 -> ask("rows");
            case 2 -> ask("bell", i, place);
            case 3 -> ask("rank", i);
            case 4 -> ask("unrank", a, place);
            case 5 -> ask("course");
            default -> ask("falseLeads", a, b);
        }
    }

    private void drawLook() {
        int budget = chance(15) ? near(1900, 2000) : near(1, 1 + below(150));
        int most = chance(40) ? near(1, 720) : near(1, 60);
        int least = chance(50) ? 1 + below(8) : near(1, Math.max(1, Math.min(most, 720)));
        if (chance(50)) {
            ask("search", least, most, budget);
        } else {
            ask("count", most, budget);
        }
        ask("looked");
        ask("prove");
        for (int k = 0; k <= model.calls(); k++) {
            ask("callAt", k);
        }
    }

    private void drawMusic() {
        int slot = near(0, 3);
        int place = near(1, bellCount);
        int bell = near(0, bellCount);
        if (chance(40)) {
            ask("pattern", slot, place, bell);
        }
        ask("music", slot);
    }

    private void drawSetting() {
        switch (below(8)) {
            case 0 -> ask("notation", near(0, 23), anyMask());
            case 1 -> ask("define", near(1, 24));
            case 2, 3, 4 -> ask("callNotation", near(1, 2), chance(70) ? goodMask() : anyMask());
            case 5 -> bellCount = askBells(near(3, 7));
            default -> setUp();
        }
    }

    /** All that can be seen of the state, so that a call that ought to change nothing is found out. */
    private void lookAround() {
        ask("calls");
        ask("rows");
        ask("looked");
        for (int k = -1; k <= 30; k++) {
            ask("callAt", k);
        }
        for (int slot = -1; slot <= 4; slot++) {
            ask("music", slot);
        }
        int rows = model.rows();
        for (int i = -1; i <= rows + 1; i += 1 + below(12)) {
            ask("rank", i);
        }
    }
}
