/** What the tests of single sentences share: a desk that is asked by name, no more often than answers are promised. */
public abstract class DeskTest {
    protected static final String STATE = "throws.IllegalStateException";
    protected static final String ARGUMENT = "throws.IllegalArgumentException";
    protected static final String UNSUPPORTED = "throws.UnsupportedOperationException";
    protected static final int NONE = -1;
    protected static final int FAR = Integer.MAX_VALUE;
    protected static final int FAR_BELOW = Integer.MIN_VALUE;

    protected static final int[] PLAIN_BOB_4 = {0, 9, 0, 9, 0, 9, 0, 3};
    protected static final int[] PLAIN_BOB_6 = {0, 33, 0, 33, 0, 33, 0, 33, 0, 33, 0, 3};

    /** Of 24 changes, with bobs by 48 and singles by 12: thirty leads can go through all 720 rows. */
    protected static final int[] EXTENT_6 = {
        9, 39, 9, 48, 39, 15, 33, 15, 12, 3, 57, 9, 57, 3, 12, 15, 33, 15, 39, 48, 9, 39, 9, 57};

    private static final int CALLS_PROMISED = 512;

    private final Check check;
    private RungTouches desk;
    private String part;
    private int asked;

    protected DeskTest(String name) {
        check = new Check(name);
    }

    /** Goes on with a new object, in the part of the test that is so called. */
    protected final void begin(String name) {
        part = name;
        desk = new RungTouches();
        asked = 0;
    }

    protected final void done() {
        check.done();
    }

    protected final void due(Object answer, String name, int... arguments) {
        Asked call = new Asked(name, arguments);
        check.same(part + ": " + call, ask(call), String.valueOf(answer));
    }

    /** An answer that is a number, for tests that find out themselves which one is due. */
    protected final int answer(String name, int... arguments) {
        return Integer.parseInt(ask(new Asked(name, arguments)));
    }

    protected final void same(String what, Object got, Object due) {
        check.same(part + ": " + what, got, due);
    }

    protected final int callsLeft() {
        return CALLS_PROMISED - asked;
    }

    private String ask(Asked call) {
        asked++;
        return asked > CALLS_PROMISED ? "nothing: the object has had its 512 calls" : call.of(desk);
    }

    protected final void give(int bells, int... masks) {
        due(true, "bells", bells);
        for (int i = 0; i < masks.length; i++) {
            due(true, "notation", i, masks[i]);
        }
    }

    protected final void method(int bells, int... masks) {
        give(bells, masks);
        due(0, "define", masks.length);
    }

    protected final void callMasks(int bob, int single) {
        due(true, "callNotation", 1, bob);
        due(true, "callNotation", 2, single);
    }

    protected final void plainBob4() {
        method(4, PLAIN_BOB_4);
        callMasks(9, 15);
    }

    /** With no swap in the method, the touch's row is moved by calls alone: a bob crosses, a single swaps 3 and 4. */
    protected final void stillMethod() {
        method(4, 15);
        callMasks(0, 3);
    }

    protected final void calls(int... kinds) {
        due(true, "keep", 0);
        for (int k = 0; k < kinds.length; k++) {
            due(k + 1, "call", kinds[k]);
        }
    }

    protected final void callsOfOneKind(int kind, int times) {
        calls(copies(kind, times));
    }

    protected static int[] copies(int number, int times) {
        int[] copies = new int[times];
        for (int i = 0; i < times; i++) {
            copies[i] = number;
        }
        return copies;
    }

    protected final void touchIs(int... kinds) {
        due(kinds.length, "calls");
        for (int k = 0; k < kinds.length; k++) {
            due(kinds[k], "callAt", k);
        }
        due(NONE, "callAt", kinds.length);
    }

    protected final void rowIs(int i, int... row) {
        for (int place = 1; place <= row.length; place++) {
            due(row[place - 1], "bell", i, place);
        }
        due(NONE, "bell", i, row.length + 1);
    }
}
