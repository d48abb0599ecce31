/** The sentences of promises 1 to 17, 21 and 22 that name a boundary: the last value inside, the first one outside. */
public final class PromiseEdgesTest extends DeskTest {
    private static final int[] RANKS = {0, 0, 0, 0, 24, 120, 720};

    private PromiseEdgesTest() {
        super("PromiseEdgesTest");
    }

    public static void main(String[] args) {
        PromiseEdgesTest test = new PromiseEdgesTest();
        test.newObjectHasSixBells();
        test.newObjectHasNothingGiven();
        test.bellsFourToSix();
        test.bellsPutsAllAsAtFirst();
        test.notationOfPlacesInTheMethod();
        test.notationWhenThereIsAMethod();
        test.notationOfMasks();
        test.notationAnew();
        test.callNotationOfKinds();
        test.callNotationOfMasks();
        test.callNotationWhenTheTouchHasSuchACall();
        test.callNotationAtTheTouchsEnds();
        test.defineOfLengths();
        test.defineOfMasksNotGiven();
        test.defineOfEveryLength();
        test.defineWhenThereIsAMethod();
        test.defineWhenTheTrebleIsAway();
        test.defineInItsOrder();
        test.defineAnswersAndGoesOn();
        test.callOfKinds();
        test.callWithoutMethod();
        test.callAtThirty();
        test.changeOfNumbers();
        test.changeInAFullTouch();
        test.changeToKinds();
        test.keepOfNumbers();
        test.keepOfAFullTouch();
        test.callsFromNoneToThirty();
        test.callAtOfNumbers();
        test.proveWhenEmpty();
        test.proveWhenTrue();
        test.proveFirstRepeatedRow();
        test.proveNone();
        test.rowsFromNoneToMost();
        test.bellOfRows();
        test.bellOfPlaces();
        test.rankOfRows();
        test.unrankOfRanks();
        test.unrankOfPlaces();
        test.courseOfEveryLength();
        test.courseWithoutMethod();
        test.courseIsOfPlainLeads();
        test.falseLeadsOfRanks();
        test.falseLeadsRowsBehindEach();
        test.falseLeadsLastRows();
        test.falseLeadsIsOfPlainLeads();
        test.patternOfSlots();
        test.patternOfPlaces();
        test.patternOfBells();
        test.musicOfSlots();
        test.musicOfRows();
        test.done();
    }

    private void newObjectHasSixBells() {
        begin("1, six bells");
        due(6, "bell", 0, 6);
        due(NONE, "bell", 0, 7);
        due(6, "unrank", 719, 1);
        due(NONE, "unrank", 720, 1);
        due(true, "pattern", 0, 6, 6);
        due(false, "pattern", 0, 7, 6);
        due(false, "pattern", 0, 6, 7);
        due(true, "notation", 0, 63);
        due(false, "notation", 0, 127);
    }

    private void newObjectHasNothingGiven() {
        begin("1, nothing given");
        touchIs();
        due(0, "looked");
        due(STATE, "course");
        due(STATE, "call", 0);
        due(STATE, "falseLeads", 0, 0);
        due(STATE, "search", 1, 1, 1);
        due(STATE, "count", 1, 1);
        for (int len = 1; len <= 24; len++) {
            due(1, "define", len);
        }
        method(6, 63);
        due(ARGUMENT, "call", 1);
        due(ARGUMENT, "call", 2);
        due(1, "call", 0);
        for (int slot = 0; slot <= 3; slot++) {
            due(1, "music", slot);
        }
    }

    private void bellsFourToSix() {
        begin("2, false when n is not 4 .. 6");
        int[] outside = {3, 7, 2, 8, 0, -1, -4, FAR, FAR_BELOW};
        for (int n = 4; n <= 6; n++) {
            due(true, "bells", n);
            for (int wrong : outside) {
                due(false, "bells", wrong);
                due(n, "bell", 0, n);
                due(NONE, "bell", 0, n + 1);
            }
        }
    }

    private void bellsPutsAllAsAtFirst() {
        for (int before = 4; before <= 6; before++) {
            for (int after = 4; after <= 6; after++) {
                begin("2, as at first: from " + before + " bells to " + after);
                fillDesk(before);
                due(true, "bells", after);
                isAsAtFirst(after);
            }
        }
    }

    private void fillDesk(int bells) {
        int all = (1 << bells) - 1;
        give(bells, copies(all, 24));
        due(0, "define", 1);
        callMasks(all, all);
        for (int slot = 0; slot <= 3; slot++) {
            for (int place = 1; place <= bells; place++) {
                due(true, "pattern", slot, place, bells + 1 - place);
            }
        }
        callsOfOneKind(1, 30);
        due(3, "count", 1, 2000);
        due(3, "looked");
    }

    private void isAsAtFirst(int bells) {
        touchIs();
        due(0, "rows");
        due(0, "looked");
        due(STATE, "course");
        for (int i = 0; i < 24; i++) {
            due(1, "define", i + 1);
            due(true, "notation", i, (1 << bells) - 1);
        }
        due(0, "define", 24);
        due(ARGUMENT, "call", 1);
        due(ARGUMENT, "call", 2);
        due(1, "call", 0);
        for (int slot = 0; slot <= 3; slot++) {
            due(24, "music", slot);
        }
    }

    private void notationOfPlacesInTheMethod() {
        begin("3, mask i (0 .. 23)");
        due(true, "bells", 4);
        int[] outside = {-1, 24, 25, -24, FAR, FAR_BELOW};
        for (int wrong : outside) {
            due(false, "notation", wrong, 15);
        }
        due(true, "notation", 0, 15);
        due(true, "notation", 23, 15);
        due(1, "define", 24);
        for (int i = 1; i <= 22; i++) {
            due(1, "define", 24);
            due(true, "notation", i, 15);
        }
        due(0, "define", 24);
    }

    private void notationWhenThereIsAMethod() {
        begin("3, false when there is a method");
        due(true, "bells", 4);
        due(true, "notation", 0, 3);
        due(true, "notation", 0, 9);
        due(0, "define", 1);
        due(false, "notation", 0, 3);
        due(false, "notation", 1, 3);
        due(false, "notation", 23, 3);
        due(false, "notation", 24, 3);
        calls(0);
        rowIs(1, 1, 3, 2, 4);
        due(true, "bells", 4);
        due(true, "notation", 0, 3);
    }

    private void notationOfMasks() {
        begin("3, false when mask is not good or has other places");
        due(true, "bells", 4);
        due(true, "notation", 0, 9);
        int[] notGood = {1, 2, 4, 5, 6, 7, 8, 10, 11, 13, 14};
        for (int mask : notGood) {
            due(false, "notation", 0, mask);
        }
        int[] otherPlaces = {16, 16 + 3, 16 + 15, 32 + 9, 64, 16 + 32 + 15, -1, -16, FAR_BELOW + 9, FAR};
        for (int mask : otherPlaces) {
            due(false, "notation", 0, mask);
        }
        due(0, "define", 1);
        calls(0);
        rowIs(1, 1, 3, 2, 4);
    }

    private void notationAnew() {
        begin("3, a mask that was given becomes another");
        due(true, "bells", 4);
        due(true, "notation", 0, 0);
        due(2, "define", 1);
        due(true, "notation", 0, 3);
        due(true, "notation", 1, 15);
        due(true, "notation", 1, 9);
        due(0, "define", 2);
        calls(0);
        rowIs(1, 1, 2, 4, 3);
        rowIs(2, 1, 4, 2, 3);
    }

    private void callNotationOfKinds() {
        begin("4, false when there is no such call");
        method(4, 15);
        int[] outside = {0, 3, -1, 4, FAR, FAR_BELOW};
        for (int wrong : outside) {
            due(false, "callNotation", wrong, 15);
        }
        due(ARGUMENT, "call", 1);
        due(ARGUMENT, "call", 2);
        due(true, "callNotation", 1, 0);
        due(1, "call", 1);
        due(ARGUMENT, "call", 2);
        due(true, "callNotation", 2, 3);
        due(2, "call", 2);
    }

    private void callNotationOfMasks() {
        begin("4, false when mask is not good or has other places");
        method(5, 31);
        for (int kind = 1; kind <= 2; kind++) {
            int[] wrong = {0, 2, 8, 15, 30, 32, 32 + 1, 63, -1, FAR, FAR_BELOW};
            for (int mask : wrong) {
                due(false, "callNotation", kind, mask);
            }
            due(ARGUMENT, "call", kind);
            due(true, "callNotation", kind, 1);
            for (int mask : wrong) {
                due(false, "callNotation", kind, mask);
            }
            calls(kind);
            rowIs(1, 1, 3, 2, 5, 4);
        }
    }

    private void callNotationWhenTheTouchHasSuchACall() {
        begin("4, false when the touch has such a call");
        stillMethod();
        calls(0);
        due(true, "callNotation", 1, 0);
        due(true, "callNotation", 2, 3);
        calls(1);
        due(false, "callNotation", 1, 9);
        due(true, "callNotation", 2, 3);
        rowIs(1, 2, 1, 4, 3);
        calls(2);
        due(true, "callNotation", 1, 0);
        due(false, "callNotation", 2, 9);
        rowIs(1, 1, 2, 4, 3);
        due(true, "change", 0, 1);
        due(true, "callNotation", 2, 3);
        due(false, "callNotation", 1, 9);
        due(true, "change", 0, 0);
        due(true, "callNotation", 1, 9);
        due(1, "search", 2, 2, 100);
        touchIs(1, 1);
        due(false, "callNotation", 1, 0);
        due(true, "callNotation", 2, 9);
        due(true, "keep", 0);
        due(true, "callNotation", 1, 0);
    }

    private void callNotationAtTheTouchsEnds() {
        begin("4, such a call is the first or the last of 30");
        stillMethod();
        callsOfOneKind(0, 30);
        due(true, "callNotation", 1, 0);
        due(true, "change", 29, 1);
        due(false, "callNotation", 1, 9);
        due(true, "change", 29, 0);
        due(true, "callNotation", 1, 0);
        due(true, "change", 0, 1);
        due(false, "callNotation", 1, 9);
        due(true, "change", 29, 2);
        due(false, "callNotation", 2, 9);
        due(true, "keep", 29);
        due(true, "callNotation", 2, 9);
        due(false, "callNotation", 1, 9);
    }

    private void defineOfLengths() {
        begin("5, 1 when len is not 1 .. 24");
        give(4, copies(15, 24));
        int[] outside = {0, 25, -1, 26, FAR, FAR_BELOW};
        for (int len : outside) {
            due(1, "define", len);
            due(STATE, "course");
        }
        due(0, "define", 24);
        due(1, "course");
        give(4, copies(15, 24));
        due(0, "define", 1);
        due(1, "course");
    }

    private void defineOfMasksNotGiven() {
        begin("5, 1 when one of these masks was not given");
        due(true, "bells", 4);
        due(1, "define", 1);
        due(true, "notation", 1, 15);
        due(1, "define", 1);
        due(1, "define", 2);
        due(true, "notation", 0, 15);
        due(1, "define", 3);
        due(true, "notation", 3, 15);
        due(1, "define", 3);
        due(1, "define", 4);
        due(STATE, "course");
        due(0, "define", 2);
        calls(0);
        due(2, "rows");
    }

    private void defineOfEveryLength() {
        begin("5, the first len masks become the method");
        for (int len = 1; len <= 24; len++) {
            due(true, "bells", 4);
            for (int i = 0; i < len - 1; i++) {
                due(true, "notation", i, 15);
            }
            due(1, "define", len);
            due(true, "notation", len - 1, 3);
            due(0, "define", len);
            calls(0);
            due(len, "rows");
            due(0, "rank", len - 1);
            due(1, "rank", len);
        }
    }

    private void defineWhenThereIsAMethod() {
        begin("5, 3 when there is a method already, whatever len is");
        give(4, 15, 3, 0);
        due(0, "define", 1);
        int[] lengths = {1, 2, 3, 4, 24, 25, 0, -1, FAR, FAR_BELOW};
        for (int len : lengths) {
            due(3, "define", len);
        }
        calls(0);
        due(1, "rows");
        rowIs(1, 1, 2, 3, 4);
    }

    private void defineWhenTheTrebleIsAway() {
        begin("5, 2 when the treble is not at place 1 behind them");
        give(4, 12, 9, 3, 3, 9, 12, 9);
        for (int len = 1; len <= 5; len++) {
            due(2, "define", len);
            due(STATE, "course");
        }
        due(0, "define", 7);
        give(4, 12, 9, 3, 3, 9, 12, 9);
        due(0, "define", 6);
        due(1, "course");
        give(4, 9, 12);
        due(2, "define", 2);
        due(0, "define", 1);
        due(2, "course");
    }

    private void defineInItsOrder() {
        begin("5, 1 goes before 2");
        due(true, "bells", 4);
        due(true, "notation", 0, 0);
        due(2, "define", 1);
        due(1, "define", 2);
        due(true, "notation", 2, 0);
        due(1, "define", 3);
        due(true, "notation", 1, 0);
        due(2, "define", 3);
        due(0, "define", 2);
    }

    private void defineAnswersAndGoesOn() {
        begin("5, otherwise there is none new");
        give(4, 0);
        due(2, "define", 1);
        due(1, "define", 2);
        due(STATE, "call", 0);
        due(true, "notation", 0, 9);
        due(0, "define", 1);
        due(1, "call", 0);
        rowIs(1, 1, 3, 2, 4);
    }

    private void callOfKinds() {
        begin("6, IllegalArgumentException: no such call, or no mask for it");
        method(4, 15);
        due(ARGUMENT, "call", -1);
        due(1, "call", 0);
        due(ARGUMENT, "call", 1);
        due(ARGUMENT, "call", 2);
        due(ARGUMENT, "call", 3);
        due(ARGUMENT, "call", FAR);
        due(ARGUMENT, "call", FAR_BELOW);
        due(true, "callNotation", 1, 0);
        due(2, "call", 1);
        due(ARGUMENT, "call", 2);
        due(true, "callNotation", 2, 3);
        due(3, "call", 2);
        due(ARGUMENT, "call", 3);
        due(ARGUMENT, "call", -1);
        touchIs(0, 1, 2);
    }

    private void callWithoutMethod() {
        begin("6, IllegalStateException: there is no method");
        give(4, 0);
        callMasks(0, 3);
        due(2, "define", 1);
        for (int kind = -1; kind <= 3; kind++) {
            due(STATE, "call", kind);
        }
        due(0, "calls");
        due(true, "notation", 0, 15);
        due(0, "define", 1);
        due(1, "call", 1);
    }

    private void callAtThirty() {
        begin("6, UnsupportedOperationException: the touch has 30");
        stillMethod();
        callsOfOneKind(2, 29);
        due(30, "call", 1);
        for (int kind = 0; kind <= 2; kind++) {
            due(UNSUPPORTED, "call", kind);
        }
        due(30, "calls");
        due(1, "callAt", 29);
        due(true, "keep", 29);
        due(30, "call", 0);
        due(UNSUPPORTED, "call", 0);
        due(0, "callAt", 29);
    }

    private void changeOfNumbers() {
        begin("7, false when there is no such call");
        due(false, "change", 0, 0);
        stillMethod();
        due(false, "change", 0, 0);
        calls(1, 1, 1);
        int[] outside = {-1, 3, 4, 29, 30, FAR, FAR_BELOW};
        for (int wrong : outside) {
            due(false, "change", wrong, 2);
        }
        touchIs(1, 1, 1);
        due(true, "change", 0, 2);
        touchIs(2, 1, 1);
        due(true, "change", 2, 0);
        touchIs(2, 1, 0);
        due(true, "keep", 2);
        due(false, "change", 2, 1);
        due(3, "call", 2);
        touchIs(2, 1, 2);
    }

    private void changeInAFullTouch() {
        begin("7, change in a touch of 30");
        stillMethod();
        callsOfOneKind(0, 30);
        due(false, "change", 30, 1);
        due(true, "change", 29, 1);
        due(1, "callAt", 29);
        due(30, "calls");
        rowIs(30, 2, 1, 4, 3);
    }

    private void changeToKinds() {
        begin("7, false when there is no such kind or mask");
        method(4, 15);
        calls(0);
        due(false, "change", 0, -1);
        due(true, "change", 0, 0);
        due(false, "change", 0, 1);
        due(false, "change", 0, 2);
        due(false, "change", 0, 3);
        touchIs(0);
        due(true, "callNotation", 2, 3);
        due(false, "change", 0, 1);
        due(true, "change", 0, 2);
        touchIs(2);
        due(true, "callNotation", 1, 0);
        due(true, "change", 0, 1);
        due(false, "change", 0, 3);
        due(false, "change", 0, -1);
        due(false, "change", 0, FAR);
        due(false, "change", 0, FAR_BELOW);
        touchIs(1);
        due(true, "change", 0, 1);
        touchIs(1);
    }

    private void keepOfNumbers() {
        begin("8, false when the touch has fewer, or k is below 0");
        due(false, "keep", -1);
        due(true, "keep", 0);
        due(false, "keep", 1);
        stillMethod();
        calls(2, 1);
        int[] outside = {-1, 3, 30, FAR, FAR_BELOW};
        for (int wrong : outside) {
            due(false, "keep", wrong);
            touchIs(2, 1);
        }
        due(true, "keep", 2);
        touchIs(2, 1);
        due(true, "keep", 1);
        touchIs(2);
        due(false, "keep", 2);
        due(true, "keep", 0);
        touchIs();
        due(false, "keep", 1);
    }

    private void keepOfAFullTouch() {
        begin("8, keep of a touch of 30");
        stillMethod();
        callsOfOneKind(2, 30);
        due(false, "keep", 31);
        due(true, "keep", 30);
        due(30, "calls");
        due(true, "keep", 29);
        due(29, "calls");
        due(NONE, "callAt", 29);
        due(false, "keep", 30);
        due(29, "rows");
    }

    private void callsFromNoneToThirty() {
        begin("9, how many calls the touch has");
        due(0, "calls");
        stillMethod();
        for (int k = 1; k <= 30; k++) {
            due(k - 1, "calls");
            due(k, "call", k % 3);
            due(k, "calls");
        }
        due(UNSUPPORTED, "call", 0);
        due(30, "calls");
    }

    private void callAtOfNumbers() {
        begin("10, NONE when there is none");
        due(NONE, "callAt", 0);
        stillMethod();
        due(NONE, "callAt", 0);
        calls(2, 1, 0);
        due(NONE, "callAt", -1);
        due(2, "callAt", 0);
        due(1, "callAt", 1);
        due(0, "callAt", 2);
        due(NONE, "callAt", 3);
        due(NONE, "callAt", FAR);
        due(NONE, "callAt", FAR_BELOW);
        due(true, "keep", 1);
        due(2, "callAt", 0);
        due(NONE, "callAt", 1);
        callsOfOneKind(1, 30);
        due(1, "callAt", 29);
        due(NONE, "callAt", 30);
    }

    private void proveWhenEmpty() {
        begin("11, 0 when the touch is empty");
        due(0, "prove");
        plainBob4();
        due(0, "prove");
        calls(0);
        due(NONE, "prove");
        due(true, "keep", 0);
        due(0, "prove");
    }

    private void proveWhenTrue() {
        begin("11, 0 when the touch is true");
        plainBob4();
        calls(0, 0, 0);
        due(0, "prove");
        due(true, "keep", 2);
        due(NONE, "prove");
        calls(0, 0, 0, 0);
        due(24, "prove");
        calls(1);
        due(0, "prove");
        calls(1, 1);
        due(8, "prove");
        method(4, 15);
        calls(0);
        due(0, "prove");
        calls(0, 0);
        due(1, "prove");
    }

    private void proveFirstRepeatedRow() {
        begin("11, the number of the first repeated row");
        stillMethod();
        calls(1, 0, 0, 1);
        due(2, "prove");
        calls(1, 2, 2, 1, 1);
        due(3, "prove");
        calls(1, 2, 1, 1);
        due(4, "prove");
        callsOfOneKind(1, 30);
        due(2, "prove");
        method(6, PLAIN_BOB_6);
        callsOfOneKind(0, 5);
        due(0, "prove");
        callsOfOneKind(0, 6);
        due(60, "prove");
        callsOfOneKind(0, 30);
        due(60, "prove");
    }

    private void proveNone() {
        begin("11, NONE when no row is repeated, and it does not end in rounds");
        stillMethod();
        calls(1);
        due(NONE, "prove");
        calls(1, 1);
        due(0, "prove");
        calls(1, 2, 1);
        due(NONE, "prove");
        calls(1, 2, 1, 2);
        due(0, "prove");
    }

    private void rowsFromNoneToMost() {
        begin("12, how many rows the touch has behind row 0");
        due(0, "rows");
        give(6, copies(63, 24));
        due(0, "rows");
        due(0, "define", 24);
        due(0, "rows");
        for (int k = 1; k <= 30; k++) {
            due(k, "call", 0);
            due(24 * k, "rows");
        }
        due(UNSUPPORTED, "call", 0);
        due(720, "rows");
        due(true, "keep", 0);
        due(0, "rows");
        method(6, 63);
        callsOfOneKind(0, 30);
        due(30, "rows");
    }

    private void bellOfRows() {
        begin("13, NONE when there is no such row");
        due(NONE, "bell", -1, 1);
        due(1, "bell", 0, 1);
        due(NONE, "bell", 1, 1);
        method(4, 9, 15);
        due(1, "bell", 0, 1);
        due(NONE, "bell", 1, 1);
        calls(0, 0);
        due(NONE, "bell", -1, 2);
        due(2, "bell", 0, 2);
        due(3, "bell", 1, 2);
        due(3, "bell", 2, 2);
        due(2, "bell", 3, 2);
        due(2, "bell", 4, 2);
        due(NONE, "bell", 5, 2);
        due(NONE, "bell", FAR, 2);
        due(NONE, "bell", FAR_BELOW, 2);
        due(true, "keep", 1);
        due(3, "bell", 2, 2);
        due(NONE, "bell", 3, 2);
    }

    private void bellOfPlaces() {
        for (int bells = 4; bells <= 6; bells++) {
            begin("13, NONE when there is no such place of " + bells);
            method(bells, (1 << bells) - 1);
            calls(0);
            for (int i = 0; i <= 1; i++) {
                due(NONE, "bell", i, 0);
                due(1, "bell", i, 1);
                due(bells, "bell", i, bells);
                due(NONE, "bell", i, bells + 1);
                due(NONE, "bell", i, -1);
                due(NONE, "bell", i, FAR);
                due(NONE, "bell", i, FAR_BELOW);
            }
            due(NONE, "bell", 2, bells + 1);
        }
    }

    private void rankOfRows() {
        begin("14, NONE when there is no such row");
        due(NONE, "rank", -1);
        due(0, "rank", 0);
        due(NONE, "rank", 1);
        method(4, 9, 3);
        due(0, "rank", 0);
        due(NONE, "rank", 1);
        calls(0);
        due(NONE, "rank", -1);
        due(0, "rank", 0);
        due(2, "rank", 1);
        due(3, "rank", 2);
        due(NONE, "rank", 3);
        due(NONE, "rank", FAR);
        due(NONE, "rank", FAR_BELOW);
        method(6, PLAIN_BOB_6);
        calls(0);
        due(719, "rank", 6);
        due(true, "keep", 0);
        due(NONE, "rank", 6);
    }

    private void unrankOfRanks() {
        for (int bells = 4; bells <= 6; bells++) {
            begin("15, NONE when there is no such row of " + bells);
            due(true, "bells", bells);
            int last = RANKS[bells] - 1;
            due(NONE, "unrank", -1, 1);
            for (int place = 1; place <= bells; place++) {
                due(place, "unrank", 0, place);
                due(bells + 1 - place, "unrank", last, place);
                due(NONE, "unrank", last + 1, place);
                due(NONE, "unrank", -1, place);
            }
            due(NONE, "unrank", FAR, 1);
            due(NONE, "unrank", FAR_BELOW, 1);
        }
    }

    private void unrankOfPlaces() {
        for (int bells = 4; bells <= 6; bells++) {
            begin("15, NONE when there is no such place of " + bells);
            due(true, "bells", bells);
            due(NONE, "unrank", 1, 0);
            due(1, "unrank", 1, 1);
            due(bells - 1, "unrank", 1, bells);
            due(NONE, "unrank", 1, bells + 1);
            due(NONE, "unrank", 1, -1);
            due(NONE, "unrank", 1, FAR);
            due(NONE, "unrank", 1, FAR_BELOW);
            due(NONE, "unrank", RANKS[bells], bells + 1);
        }
    }

    /** With the treble at home the other five bells can need six leads, and no more. */
    private void courseOfEveryLength() {
        begin("16, after how many plain leads it is rounds again");
        method(4, 15);
        due(1, "course");
        method(4, 3);
        due(2, "course");
        method(4, 3, 9);
        due(3, "course");
        method(5, 31);
        due(1, "course");
        method(5, 7);
        due(2, "course");
        method(5, 7, 19);
        due(3, "course");
        method(5, 7, 19, 25);
        due(4, "course");
        method(6, 63);
        due(1, "course");
        method(6, 33);
        due(2, "course");
        method(6, 57, 51);
        due(3, "course");
        method(6, 57, 51, 39);
        due(4, "course");
        method(6, PLAIN_BOB_6);
        due(5, "course");
        method(6, 57, 51, 15);
        due(6, "course");
    }

    private void courseWithoutMethod() {
        begin("16, IllegalStateException: there is no method");
        due(STATE, "course");
        give(4, 0);
        due(STATE, "course");
        due(2, "define", 1);
        due(STATE, "course");
        due(true, "notation", 0, 15);
        due(0, "define", 1);
        due(1, "course");
        due(false, "bells", 7);
        due(1, "course");
        due(true, "bells", 4);
        due(STATE, "course");
    }

    private void courseIsOfPlainLeads() {
        begin("16, plain leads, beginning in rounds");
        plainBob4();
        due(3, "course");
        calls(1, 2);
        due(3, "course");
        due(3, "course");
        touchIs(1, 2);
    }

    private void falseLeadsOfRanks() {
        for (int bells = 4; bells <= 6; bells++) {
            begin("17, IllegalArgumentException: there is no such rank of " + bells);
            due(STATE, "falseLeads", 0, 0);
            due(STATE, "falseLeads", -1, 0);
            method(bells, (1 << bells) - 1);
            int last = RANKS[bells] - 1;
            int[] outside = {-1, last + 1, FAR, FAR_BELOW};
            for (int wrong : outside) {
                due(ARGUMENT, "falseLeads", wrong, 0);
                due(ARGUMENT, "falseLeads", 0, wrong);
                due(ARGUMENT, "falseLeads", wrong, last);
                due(ARGUMENT, "falseLeads", last, wrong);
                due(ARGUMENT, "falseLeads", wrong, wrong);
            }
            due(true, "falseLeads", 0, 0);
            due(true, "falseLeads", last, last);
            due(false, "falseLeads", 0, last);
            due(false, "falseLeads", last, 0);
            due(true, "bells", bells);
            due(STATE, "falseLeads", 0, 0);
        }
    }

    private void falseLeadsRowsBehindEach() {
        begin("17, the rows in which the leads begin do not count");
        method(4, 3);
        due(false, "falseLeads", 0, 1);
        due(false, "falseLeads", 1, 0);
        due(true, "falseLeads", 1, 1);
        method(4, 3, 3);
        due(true, "falseLeads", 0, 1);
        due(true, "falseLeads", 1, 0);
        due(false, "falseLeads", 0, 2);
        method(4, 9, 3);
        due(false, "falseLeads", 0, 4);
        due(false, "falseLeads", 4, 0);
    }

    /** Behind rounds are 132456, 134256 and 134526 (of rank 32); behind rank 56, 143526, first of all 134526. */
    private void falseLeadsLastRows() {
        begin("17, of the LEN rows behind each, the last ones too, and none further");
        give(6, 57, 51, 39, 57);
        due(0, "define", 3);
        due(true, "falseLeads", 0, 56);
        due(true, "falseLeads", 56, 0);
        due(false, "falseLeads", 0, 32);
        due(false, "falseLeads", 32, 0);
        due(false, "falseLeads", 56, 32);
    }

    private void falseLeadsIsOfPlainLeads() {
        begin("17, plain leads");
        method(4, 15, 15);
        callMasks(3, 3);
        calls(1, 2);
        due(false, "falseLeads", 0, 1);
        touchIs(1, 2);
        rowIs(4, 1, 2, 3, 4);
    }

    private void patternOfSlots() {
        begin("21, false when there is no such pattern");
        method(4, 15);
        calls(0);
        int[] outside = {-1, 4, 5, FAR, FAR_BELOW};
        for (int wrong : outside) {
            due(false, "pattern", wrong, 1, 2);
        }
        for (int slot = 0; slot <= 3; slot++) {
            due(1, "music", slot);
        }
        due(true, "pattern", 0, 1, 2);
        due(0, "music", 0);
        due(1, "music", 3);
        due(true, "pattern", 3, 1, 2);
        due(0, "music", 3);
        due(1, "music", 1);
        due(1, "music", 2);
    }

    private void patternOfPlaces() {
        for (int bells = 4; bells <= 6; bells++) {
            begin("21, false when there is no such place of " + bells);
            method(bells, (1 << bells) - 1);
            calls(0);
            int[] outside = {0, bells + 1, -1, 7, 8, FAR, FAR_BELOW};
            for (int wrong : outside) {
                due(false, "pattern", 2, wrong, 2);
                due(1, "music", 2);
            }
            due(true, "pattern", 2, 1, 1);
            due(1, "music", 2);
            due(true, "pattern", 2, bells, bells);
            due(1, "music", 2);
            due(true, "pattern", 2, bells, 1);
            due(0, "music", 2);
        }
    }

    private void patternOfBells() {
        for (int bells = 4; bells <= 6; bells++) {
            begin("21, false when there is no such bell of " + bells);
            method(bells, (1 << bells) - 1);
            calls(0);
            due(true, "pattern", 1, bells, bells);
            int[] outside = {-1, bells + 1, 7, FAR, FAR_BELOW};
            for (int wrong : outside) {
                due(false, "pattern", 1, bells, wrong);
                due(1, "music", 1);
            }
            due(true, "pattern", 1, bells, 1);
            due(0, "music", 1);
            due(true, "pattern", 1, bells, bells);
            due(1, "music", 1);
            due(true, "pattern", 1, 1, bells);
            due(0, "music", 1);
            due(true, "pattern", 1, 1, 0);
            due(1, "music", 1);
        }
    }

    private void musicOfSlots() {
        begin("22, NONE when there is no such pattern");
        int[] outside = {-1, 4, 5, FAR, FAR_BELOW};
        for (int wrong : outside) {
            due(NONE, "music", wrong);
        }
        due(0, "music", 0);
        due(0, "music", 3);
        method(4, 15);
        calls(0);
        for (int wrong : outside) {
            due(NONE, "music", wrong);
        }
        due(1, "music", 0);
        due(1, "music", 3);
    }

    private void musicOfRows() {
        begin("22, rows 1 .. N: row 0 does not count, and row N does");
        method(4, 3);
        for (int place = 1; place <= 4; place++) {
            due(true, "pattern", 0, place, place);
        }
        due(true, "pattern", 1, 4, 3);
        due(0, "music", 0);
        due(0, "music", 2);
        calls(0);
        due(0, "music", 0);
        due(1, "music", 1);
        due(1, "music", 2);
        calls(0, 0);
        due(1, "music", 0);
        due(1, "music", 1);
        due(2, "music", 2);
        callsOfOneKind(0, 30);
        due(15, "music", 0);
        due(15, "music", 1);
        due(30, "music", 2);
        method(6, copies(63, 24));
        callsOfOneKind(0, 30);
        due(720, "music", 3);
        due(true, "pattern", 3, 6, 6);
        due(720, "music", 3);
    }
}
