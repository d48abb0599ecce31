import java.util.ArrayList;
import java.util.List;

/** "A call that throws, or is refused, changes nothing": every answer of the object afterwards is as it was before. */
public final class RefusedTest {
    private static final String STATE = "throws.IllegalStateException";
    private static final String ARGUMENT = "throws.IllegalArgumentException";
    private static final String UNSUPPORTED = "throws.UnsupportedOperationException";
    private static final int FAR = Integer.MAX_VALUE;
    private static final int FAR_BELOW = Integer.MIN_VALUE;
    private static final int NONE = -1;

    private final Check check = new Check("RefusedTest");

    public static void main(String[] args) {
        RefusedTest test = new RefusedTest();
        Situation[] situations = {
            newObject(), masksGiven(), emptyTouch(), shortTouch(), fullTouch(), fullTouchOfPlainCalls()};
        for (Situation situation : situations) {
            test.refusals(situation);
            test.eyesAreOpen(situation);
        }
        test.check.done();
    }

    private static Situation newObject() {
        Situation now = new Situation("a new object", 6, 0);
        refusesWithoutMethod(now);
        refusesAnywhere(now);
        now.refuses(1, "define", 1);
        now.refuses(1, "define", 24);
        now.refuses(false, "notation", 0, 1);
        now.refuses(false, "notation", 0, 64);
        now.refuses(false, "callNotation", 2, 1);
        now.refuses(false, "callNotation", 2, 64);
        now.takes("bells", 4);
        now.takes("bells", 5);
        now.takes("notation", 0, 0);
        now.takes("notation", 23, 63);
        now.takes("callNotation", 1, 63);
        now.takes("callNotation", 2, 63);
        now.takes("pattern", 0, 1, 1);
        now.takes("pattern", 3, 6, 6);
        return now;
    }

    private static Situation masksGiven() {
        Situation now = new Situation("masks given, no method", 5, 0);
        now.after("bells", 5);
        now.after("notation", 0, 16);
        now.after("notation", 1, 1);
        now.after("notation", 3, 7);
        now.after("notation", 23, 31);
        now.after("callNotation", 1, 7);
        now.after("pattern", 0, 1, 2);
        now.after("pattern", 3, 5, 4);
        refusesWithoutMethod(now);
        refusesAnywhere(now);
        now.refuses(2, "define", 1);
        now.refuses(2, "define", 2);
        now.refuses(1, "define", 3);
        now.refuses(1, "define", 24);
        int[] wrongMasks = {0, 2, 15, 32, 32 + 16, 63, -1, FAR, FAR_BELOW};
        for (int mask : wrongMasks) {
            now.refuses(false, "notation", 0, mask);
            now.refuses(false, "notation", 2, mask);
            now.refuses(false, "callNotation", 1, mask);
            now.refuses(false, "callNotation", 2, mask);
        }
        now.refuses(false, "pattern", 0, 6, 1);
        now.refuses(false, "pattern", 0, 1, 6);
        now.refuses(NONE, "unrank", 120, 1);
        now.refuses(NONE, "bell", 0, 6);
        now.takes("bells", 5);
        now.takes("bells", 6);
        now.takes("notation", 0, 1);
        now.takes("notation", 1, 31);
        now.takes("notation", 2, 31);
        now.takes("notation", 23, 7);
        now.takes("callNotation", 1, 1);
        now.takes("callNotation", 2, 31);
        now.takes("pattern", 0, 1, 0);
        now.takes("pattern", 0, 2, 4);
        now.takes("pattern", 3, 5, 2);
        return now;
    }

    private static void plainBob4(Situation now) {
        int[] masks = {0, 9, 0, 9, 0, 9, 0, 3};
        now.after("bells", 4);
        for (int i = 0; i < masks.length; i++) {
            now.after("notation", i, masks[i]);
        }
        now.after("define", 8);
    }

    private static Situation emptyTouch() {
        Situation now = new Situation("a method, an empty touch, no single", 4, 8);
        plainBob4(now);
        now.after("callNotation", 1, 9);
        now.after("pattern", 2, 4, 4);
        now.after("search", 25, 720, 2);
        refusesWithMethod(now);
        refusesAnywhere(now);
        refusesOnFourBells(now);
        now.refuses(2, "search", 25, 720, 2);
        now.refuses(NONE, "count", 24, 2);
        now.refuses(ARGUMENT, "call", 2);
        now.refuses(false, "change", 0, 0);
        now.refuses(false, "keep", 1);
        now.refuses(NONE, "callAt", 0);
        now.refuses(NONE, "rank", 1);
        now.takes("bells", 4);
        now.takes("callNotation", 1, 15);
        now.takes("callNotation", 2, 15);
        now.takes("call", 0);
        now.takes("call", 1);
        now.takes("search", 1, 24, 100);
        now.takes("search", 25, 720, 3);
        now.takes("count", 24, 3);
        now.takes("pattern", 2, 4, 0);
        return now;
    }

    private static Situation shortTouch() {
        Situation now = new Situation("a touch of three calls", 4, 8);
        plainBob4(now);
        now.after("callNotation", 1, 9);
        now.after("callNotation", 2, 15);
        for (int kind = 0; kind <= 2; kind++) {
            now.after("call", kind);
        }
        now.after("pattern", 0, 1, 3);
        now.after("pattern", 0, 4, 2);
        now.after("pattern", 3, 2, 1);
        now.after("search", 25, 720, 2000);
        refusesWithMethod(now);
        refusesAnywhere(now);
        refusesOnFourBells(now);
        now.refuses(0, "search", 25, 720, 2000);
        now.refuses(1, "count", 24, 2000);
        now.refuses(false, "callNotation", 1, 15);
        now.refuses(false, "callNotation", 2, 9);
        now.refuses(false, "change", 3, 0);
        for (int wrong : new int[] {-1, 3, FAR, FAR_BELOW}) {
            now.refuses(false, "change", 0, wrong);
            now.refuses(false, "change", wrong, 1);
        }
        now.refuses(false, "keep", 4);
        now.refuses(NONE, "callAt", 3);
        now.refuses(NONE, "rank", 25);
        now.refuses(NONE, "bell", 25, 1);
        now.refuses(16, "prove");
        now.takes("bells", 6);
        now.takes("call", 0);
        now.takes("change", 0, 1);
        now.takes("change", 2, 0);
        now.takes("keep", 2);
        now.takes("keep", 0);
        now.takes("search", 1, 8, 100);
        now.takes("count", 8, 100);
        now.takes("pattern", 0, 1, 0);
        now.takes("pattern", 3, 2, 2);
        return now;
    }

    private static Situation fullTouch() {
        Situation now = new Situation("a touch of 30 calls", 4, 1);
        now.after("bells", 4);
        now.after("notation", 0, 15);
        now.after("define", 1);
        now.after("callNotation", 1, 0);
        now.after("callNotation", 2, 9);
        for (int k = 0; k < 30; k++) {
            now.after("call", k % 3);
        }
        now.after("pattern", 1, 3, 2);
        now.after("count", 1, 3);
        refusesWithMethod(now);
        refusesAnywhere(now);
        refusesOnFourBells(now);
        for (int kind = 0; kind <= 2; kind++) {
            now.refuses(UNSUPPORTED, "call", kind);
            now.refuses(false, "change", 30, kind);
        }
        now.refuses(1, "count", 1, 3);
        now.refuses(false, "callNotation", 1, 15);
        now.refuses(false, "callNotation", 2, 15);
        now.refuses(false, "change", 29, 3);
        now.refuses(false, "keep", 31);
        now.refuses(NONE, "callAt", 30);
        now.refuses(NONE, "rank", 31);
        now.takes("bells", 4);
        now.takes("change", 0, 1);
        now.takes("change", 29, 0);
        now.takes("keep", 29);
        now.takes("search", 1, 1, 1);
        now.takes("count", 2, 2000);
        now.takes("pattern", 1, 3, 3);
        return now;
    }

    private static Situation fullTouchOfPlainCalls() {
        Situation now = new Situation("a touch of 30 plain calls, no bob and no single", 4, 1);
        now.after("bells", 4);
        now.after("notation", 0, 3);
        now.after("define", 1);
        for (int k = 0; k < 30; k++) {
            now.after("call", 0);
        }
        refusesWithMethod(now);
        refusesAnywhere(now);
        refusesOnFourBells(now);
        now.refuses(UNSUPPORTED, "call", 0);
        for (int kind = 1; kind <= 2; kind++) {
            now.refuses(ARGUMENT, "call", kind);
            now.refuses(false, "change", 0, kind);
            now.refuses(false, "change", 29, kind);
        }
        now.refuses(false, "change", 30, 0);
        now.refuses(false, "keep", 31);
        now.takes("bells", 4);
        now.takes("callNotation", 1, 3);
        now.takes("callNotation", 2, 15);
        now.takes("keep", 29);
        now.takes("count", 1, 1);
        now.takes("search", 2, 2, 2);
        now.takes("pattern", 0, 4, 3);
        return now;
    }

    private static void refusesAnywhere(Situation now) {
        for (int wrong : new int[] {3, 7, 0, FAR, FAR_BELOW}) {
            now.refuses(false, "bells", wrong);
        }
        for (int wrong : new int[] {-1, 24, FAR, FAR_BELOW}) {
            now.refuses(false, "notation", wrong, (1 << now.bells()) - 1);
        }
        for (int wrong : new int[] {-1, 0, 3, FAR, FAR_BELOW}) {
            now.refuses(false, "callNotation", wrong, (1 << now.bells()) - 1);
        }
        for (int wrong : new int[] {-1, 4, FAR, FAR_BELOW}) {
            now.refuses(false, "pattern", wrong, 1, 3);
            now.refuses(NONE, "music", wrong);
        }
        for (int wrong : new int[] {0, now.bells() + 1, FAR, FAR_BELOW}) {
            now.refuses(false, "pattern", 0, wrong, 1);
            now.refuses(NONE, "bell", 0, wrong);
            now.refuses(NONE, "unrank", 3, wrong);
        }
        for (int wrong : new int[] {-1, now.bells() + 1, FAR, FAR_BELOW}) {
            now.refuses(false, "pattern", 0, 1, wrong);
        }
        for (int wrong : new int[] {-1, FAR, FAR_BELOW}) {
            now.refuses(false, "keep", wrong);
            now.refuses(false, "change", wrong, 0);
            now.refuses(NONE, "callAt", wrong);
            now.refuses(NONE, "bell", wrong, 1);
            now.refuses(NONE, "rank", wrong);
            now.refuses(NONE, "unrank", wrong, 1);
        }
    }

    private static void refusesWithoutMethod(Situation now) {
        for (int kind = -1; kind <= 3; kind++) {
            now.refuses(STATE, "call", kind);
            now.refuses(false, "change", 0, kind);
        }
        now.refuses(STATE, "course");
        now.refuses(STATE, "falseLeads", 0, 0);
        now.refuses(STATE, "falseLeads", -1, 720);
        now.refuses(STATE, "search", 1, 1, 1);
        now.refuses(STATE, "search", 0, 721, 0);
        now.refuses(STATE, "count", 1, 1);
        now.refuses(STATE, "count", 0, 0);
        now.refuses(false, "keep", 1);
        for (int wrong : new int[] {0, 25, FAR, FAR_BELOW}) {
            now.refuses(1, "define", wrong);
        }
    }

    private static void refusesWithMethod(Situation now) {
        for (int len : new int[] {0, 1, 8, 24, 25, FAR, FAR_BELOW}) {
            now.refuses(3, "define", len);
        }
        for (int i : new int[] {0, 1, 7, 8, 23}) {
            now.refuses(false, "notation", i, 9);
        }
        for (int wrong : new int[] {-1, 3, FAR, FAR_BELOW}) {
            now.refuses(ARGUMENT, "call", wrong);
        }
        for (int wrong : new int[] {0, 721, FAR, FAR_BELOW}) {
            now.refuses(ARGUMENT, "search", wrong, 720, 5);
            now.refuses(ARGUMENT, "search", 1, wrong, 5);
            now.refuses(ARGUMENT, "count", wrong, 5);
        }
        for (int wrong : new int[] {0, 2001, FAR, FAR_BELOW}) {
            now.refuses(ARGUMENT, "search", 1, 720, wrong);
            now.refuses(ARGUMENT, "count", 1, wrong);
        }
        now.refuses(ARGUMENT, "search", 9, 8, 5);
    }

    private static void refusesOnFourBells(Situation now) {
        for (int wrong : new int[] {-1, 24, FAR, FAR_BELOW}) {
            now.refuses(ARGUMENT, "falseLeads", wrong, 0);
            now.refuses(ARGUMENT, "falseLeads", 0, wrong);
        }
        for (int mask : new int[] {1, 14, 16, 16 + 15, -1}) {
            now.refuses(false, "callNotation", 1, mask);
            now.refuses(false, "callNotation", 2, mask);
        }
        now.refuses(NONE, "unrank", 24, 1);
    }

    private static List<String> answers(RungTouches desk, List<Asked> calls) {
        List<String> answers = new ArrayList<>();
        for (Asked call : calls) {
            answers.add(call + " " + call.of(desk));
        }
        return answers;
    }

    /** What all probes answer on desks that were used so and then got these calls too. */
    private static List<List<String>> seenAfter(Situation situation, List<Asked> further) {
        List<List<String>> seen = new ArrayList<>();
        for (List<Asked> probe : Probes.of(situation)) {
            RungTouches desk = situation.newDesk();
            answers(desk, further);
            seen.add(answers(desk, probe));
        }
        return seen;
    }

    /** The first answer that is another one, so that a failed check can be read. */
    private static String difference(List<List<String>> now, List<List<String>> before) {
        for (int probe = 0; probe < before.size(); probe++) {
            for (int k = 0; k < before.get(probe).size(); k++) {
                String answer = now.get(probe).get(k);
                if (!answer.equals(before.get(probe).get(k))) {
                    return answer + " in place of " + before.get(probe).get(k);
                }
            }
        }
        return "none";
    }

    private void refusals(Situation situation) {
        List<List<String>> before = seenAfter(situation, List.of());
        List<Asked> reads = Probes.reads(situation);
        for (int r = 0; r < situation.refused().size(); r++) {
            Asked refused = situation.refused().get(r);
            String what = situation.name() + ", " + refused;
            RungTouches desk = situation.newDesk();
            List<String> readBefore = answers(desk, reads);
            check.same(what, refused.of(desk), situation.answerTo(r));
            List<String> readBehind = answers(desk, reads);
            check.same(what + ": difference read", difference(List.of(readBehind), List.of(readBefore)), "none");
            check.same(what + ": difference", difference(seenAfter(situation, List.of(refused)), before), "none");
        }
        List<List<String>> afterAll = seenAfter(situation, situation.refused());
        check.same(situation.name() + ", all refused calls: difference", difference(afterAll, before), "none");
        check.same(situation.name() + ": within 512 calls", mostCalls(situation) <= 512, true);
    }

    private static int mostCalls(Situation situation) {
        int longest = 2 * Probes.reads(situation).size();
        for (List<Asked> probe : Probes.of(situation)) {
            longest = Math.max(longest, probe.size());
        }
        return situation.callsBefore() + situation.refused().size() + longest;
    }

    /** A call that is taken is seen by a probe: so a refused one that does what it was asked to is seen too. */
    private void eyesAreOpen(Situation situation) {
        List<List<String>> before = seenAfter(situation, List.of());
        for (Asked taken : situation.taken()) {
            String seen = difference(seenAfter(situation, List.of(taken)), before);
            check.same(situation.name() + ", " + taken + ": seen by the probes", !seen.equals("none"), true);
        }
    }
}
