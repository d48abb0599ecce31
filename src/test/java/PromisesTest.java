/** The promises of the document one by one: ordinary inputs, the edges that it names, and wrong inputs. */
public final class PromisesTest extends DeskTest {
    private PromisesTest() {
        super("PromisesTest");
    }

    public static void main(String[] args) {
        PromisesTest test = new PromisesTest();
        test.newObject();
        test.bells();
        test.bellsForgets();
        test.bellsClearsPatterns();
        test.notation();
        test.goodMasks();
        test.callNotation();
        test.define();
        test.defineOrder();
        test.call();
        test.change();
        test.keep();
        test.callsAndCallAt();
        test.prove();
        test.proveFindsRepeatedRows();
        test.rows();
        test.bell();
        test.rank();
        test.unrank();
        test.course();
        test.falseLeads();
        test.masksBehindTheMethod();
        test.search();
        test.searchOrder();
        test.searchBudget();
        test.searchThirtyCalls();
        test.count();
        test.looked();
        test.lookRefused();
        test.pattern();
        test.music();
        test.refusedChangesNothing();
        test.done();
    }

    private void newObject() {
        begin("1, a new object");
        rowIs(0, 1, 2, 3, 4, 5, 6);
        due(0, "rank", 0);
        due(6, "unrank", 719, 1);
        due(0, "calls");
        due(0, "rows");
        due(0, "prove");
        due(0, "looked");
        due(-1, "callAt", 0);
        for (int slot = 0; slot < 4; slot++) {
            due(0, "music", slot);
        }
        due(1, "define", 1);
        due(STATE, "call", 0);
        due(STATE, "course");
        due(true, "notation", 0, 32 + 1);
        due(0, "define", 1);
        due(ARGUMENT, "call", 1);
        due(ARGUMENT, "call", 2);
    }

    private void bells() {
        begin("2, bells");
        int[] wrong = {3, 7, 0, -4, FAR, FAR_BELOW};
        for (int n : wrong) {
            due(false, "bells", n);
            due(6, "bell", 0, 6);
        }
        due(true, "bells", 4);
        rowIs(0, 1, 2, 3, 4);
        due(false, "bells", 3);
        rowIs(0, 1, 2, 3, 4);
        due(true, "bells", 5);
        rowIs(0, 1, 2, 3, 4, 5);
        due(true, "bells", 6);
        rowIs(0, 1, 2, 3, 4, 5, 6);
    }

    private void bellsForgets() {
        begin("2, bells forgets");
        plainBob4();
        calls(0, 1);
        due(true, "pattern", 0, 1, 2);
        due(true, "pattern", 3, 4, 2);
        due(-1, "count", 24, 3);
        due(3, "looked");
        due(false, "bells", 7);
        touchIs(0, 1);
        due(3, "looked");
        due(5, "music", 3);
        due(true, "bells", 4);
        touchIs();
        due(0, "rows");
        due(0, "looked");
        due(STATE, "course");
        due(1, "define", 8);
        due(1, "define", 1);
        method(4, 15);
        due(ARGUMENT, "call", 1);
        due(ARGUMENT, "call", 2);
        calls(0);
        for (int slot = 0; slot < 4; slot++) {
            due(1, "music", slot);
        }
    }

    private void bellsClearsPatterns() {
        begin("2, bells clears patterns");
        for (int slot = 0; slot < 4; slot++) {
            for (int place = 1; place <= 6; place++) {
                due(true, "pattern", slot, place, 7 - place);
                method(6, 63);
                calls(0);
                due(1, "music", slot);
            }
        }
        due(true, "pattern", 0, 6, 5);
        method(4, 15);
        calls(0);
        due(1, "music", 0);
        method(6, 63);
        calls(0);
        due(1, "music", 0);
    }

    private void notation() {
        begin("3, notation");
        due(true, "bells", 4);
        int[] wrongPlaces = {-1, 24, FAR, FAR_BELOW};
        for (int i : wrongPlaces) {
            due(false, "notation", i, 15);
        }
        for (int i = 0; i < 24; i++) {
            due(true, "notation", i, 15);
        }
        due(true, "notation", 23, 3);
        due(true, "notation", 0, 9);
        due(false, "notation", 0, 1);
        due(0, "define", 24);
        due(false, "notation", 0, 9);
        due(false, "notation", 23, 15);
        calls(0);
        rowIs(1, 1, 3, 2, 4);
        rowIs(23, 1, 3, 2, 4);
        rowIs(24, 1, 3, 4, 2);
    }

    private void goodMasks() {
        int[] good4 = {0, 3, 9, 12, 15};
        int[] good5 = {1, 4, 16, 7, 19, 25, 28, 31};
        int[] good6 = {0, 3, 9, 12, 15, 33, 36, 39, 48, 51, 57, 60, 63};
        onlyTheseAreGood(4, good4);
        onlyTheseAreGood(5, good5);
        onlyTheseAreGood(6, good6);
    }

    private void onlyTheseAreGood(int bells, int[] good) {
        begin("3, good masks of " + bells + " bells");
        due(true, "bells", bells);
        for (int mask = -70; mask < 140; mask++) {
            boolean isGood = false;
            for (int one : good) {
                isGood |= one == mask;
            }
            due(isGood, "notation", 0, mask);
            due(isGood, "callNotation", 2, mask);
        }
        due(false, "notation", 0, FAR);
        due(false, "notation", 0, FAR_BELOW);
    }

    private void callNotation() {
        begin("4, callNotation");
        due(true, "bells", 4);
        int[] wrongKinds = {0, 3, -1, FAR, FAR_BELOW};
        for (int kind : wrongKinds) {
            due(false, "callNotation", kind, 15);
        }
        due(true, "callNotation", 1, 12);
        give(4, 15);
        due(true, "callNotation", 1, 0);
        due(0, "define", 1);
        due(ARGUMENT, "call", 2);
        due(true, "callNotation", 2, 3);
        calls(1, 2);
        rowIs(1, 2, 1, 4, 3);
        rowIs(2, 2, 1, 3, 4);
        due(false, "callNotation", 1, 9);
        due(false, "callNotation", 2, 9);
        calls(0, 2);
        due(true, "callNotation", 1, 9);
        due(false, "callNotation", 2, 9);
        due(false, "callNotation", 1, 1);
        due(false, "callNotation", 1, 16);
        calls(1);
        rowIs(1, 1, 3, 2, 4);
        due(true, "callNotation", 2, 9);
    }

    private void define() {
        begin("5, define");
        give(4, PLAIN_BOB_4);
        due(true, "notation", 9, 15);
        int[] wrongLengths = {0, -1, 25, FAR, FAR_BELOW, 9, 10, 24};
        for (int len : wrongLengths) {
            due(1, "define", len);
        }
        for (int len = 1; len < 7; len++) {
            due(2, "define", len);
        }
        due(STATE, "call", 0);
        due(0, "define", 8);
        calls(0);
        due(8, "rows");
        rowIs(8, 1, 3, 4, 2);
        for (int len : wrongLengths) {
            due(3, "define", len);
        }
        due(3, "define", 8);
        due(3, "define", 1);
    }

    private void defineOrder() {
        begin("5, define of a part");
        due(true, "bells", 4);
        due(true, "notation", 1, 0);
        due(1, "define", 2);
        due(1, "define", 1);
        due(true, "notation", 0, 0);
        due(2, "define", 1);
        due(0, "define", 2);
        calls(0);
        due(2, "rows");
        method(5, 31, 31, 31, 31, 31, 31, 31, 31, 31, 31, 31, 31, 31, 31, 31, 31, 31, 31, 31, 31, 31, 31, 31, 31);
        calls(0);
        due(24, "rows");
    }

    private void call() {
        begin("6, call");
        due(STATE, "call", 0);
        due(STATE, "call", 7);
        due(true, "callNotation", 1, 63);
        due(STATE, "call", 1);
        stillMethod();
        int[] wrongKinds = {-1, 3, FAR, FAR_BELOW};
        for (int kind : wrongKinds) {
            due(ARGUMENT, "call", kind);
        }
        due(0, "calls");
        for (int k = 0; k < 30; k++) {
            due(k + 1, "call", k % 3);
        }
        due(UNSUPPORTED, "call", 0);
        due(UNSUPPORTED, "call", 2);
        due(ARGUMENT, "call", 3);
        due(30, "calls");
        for (int k = 0; k < 30; k++) {
            due(k % 3, "callAt", k);
        }
        due(true, "keep", 29);
        due(30, "call", 2);
    }

    private void change() {
        begin("7, change");
        due(false, "change", 0, 0);
        method(4, 15);
        calls(0, 0, 0);
        due(false, "change", 1, 1);
        due(true, "callNotation", 1, 0);
        due(true, "change", 1, 1);
        due(false, "change", 1, 2);
        int[] wrong = {-1, 3, FAR, FAR_BELOW};
        for (int one : wrong) {
            due(false, "change", one, 1);
            due(false, "change", 1, one);
        }
        touchIs(0, 1, 0);
        rowIs(3, 2, 1, 4, 3);
        due(true, "change", 1, 1);
        due(true, "change", 2, 1);
        due(true, "change", 0, 1);
        touchIs(1, 1, 1);
        due(true, "change", 1, 0);
        touchIs(1, 0, 1);
    }

    private void keep() {
        begin("8, keep");
        due(true, "keep", 0);
        due(false, "keep", 1);
        due(false, "keep", -1);
        stillMethod();
        calls(1, 2, 0);
        due(false, "keep", 4);
        due(false, "keep", -1);
        due(false, "keep", FAR);
        due(false, "keep", FAR_BELOW);
        due(true, "keep", 3);
        touchIs(1, 2, 0);
        due(true, "keep", 2);
        touchIs(1, 2);
        due(-1, "callAt", 2);
        due(false, "keep", 3);
        due(3, "call", 1);
        touchIs(1, 2, 1);
        due(true, "keep", 0);
        touchIs();
        due(true, "callNotation", 1, 3);
    }

    private void callsAndCallAt() {
        begin("9 and 10, calls and callAt");
        due(0, "calls");
        due(-1, "callAt", 0);
        stillMethod();
        calls(2, 0, 1);
        due(3, "calls");
        due(2, "callAt", 0);
        due(0, "callAt", 1);
        due(1, "callAt", 2);
        int[] wrong = {3, -1, 30, FAR, FAR_BELOW};
        for (int k : wrong) {
            due(-1, "callAt", k);
        }
    }

    private void prove() {
        begin("11, prove");
        due(0, "prove");
        plainBob4();
        due(0, "prove");
        calls(0);
        due(-1, "prove");
        calls(0, 0);
        due(-1, "prove");
        calls(0, 0, 0);
        due(0, "prove");
        calls(0, 0, 0, 0);
        due(24, "prove");
        calls(1);
        due(0, "prove");
        calls(1, 0, 0);
        due(8, "prove");
        calls(1, 1);
        due(8, "prove");
    }

    private void proveFindsRepeatedRows() {
        begin("11, prove: repeated rows");
        stillMethod();
        calls(0);
        due(0, "prove");
        calls(0, 0);
        due(1, "prove");
        calls(1, 1);
        due(0, "prove");
        calls(1, 0);
        due(2, "prove");
        calls(1, 0, 1);
        due(2, "prove");
        calls(1, 2, 1);
        due(-1, "prove");
        calls(1, 2, 1, 2);
        due(0, "prove");
        calls(1, 2, 1, 2, 1);
        due(4, "prove");
        calls(1, 2, 2, 1);
        due(3, "prove");
        method(4, 0, 0, 9);
        calls(0);
        due(2, "prove");
        method(4, 9, 0, 0);
        calls(0);
        due(3, "prove");
    }

    private void rows() {
        begin("12, rows");
        due(0, "rows");
        give(6, PLAIN_BOB_6);
        due(0, "rows");
        due(0, "define", 12);
        due(0, "rows");
        calls(0);
        due(12, "rows");
        calls(0, 0, 0, 0, 0);
        due(60, "rows");
        due(true, "keep", 2);
        due(24, "rows");
    }

    private void bell() {
        begin("13, bell");
        method(6, PLAIN_BOB_6);
        due(true, "callNotation", 1, 9);
        due(true, "callNotation", 2, 15);
        calls(0, 1, 2);
        rowIs(0, 1, 2, 3, 4, 5, 6);
        rowIs(1, 2, 1, 4, 3, 6, 5);
        rowIs(2, 2, 4, 1, 6, 3, 5);
        rowIs(6, 6, 5, 4, 3, 2, 1);
        rowIs(11, 1, 3, 2, 5, 4, 6);
        rowIs(12, 1, 3, 5, 2, 6, 4);
        rowIs(13, 3, 1, 2, 5, 4, 6);
        rowIs(24, 1, 3, 5, 6, 4, 2);
        rowIs(36, 1, 5, 3, 4, 2, 6);
        int[] wrongRows = {37, -1, FAR, FAR_BELOW};
        for (int i : wrongRows) {
            due(-1, "bell", i, 1);
        }
        int[] wrongPlaces = {0, 7, -1, FAR, FAR_BELOW};
        for (int place : wrongPlaces) {
            due(-1, "bell", 1, place);
        }
        due(true, "change", 1, 0);
        rowIs(24, 1, 5, 6, 3, 4, 2);
    }

    private void rank() {
        begin("14, rank");
        due(0, "rank", 0);
        due(-1, "rank", 1);
        due(-1, "rank", -1);
        stillMethod();
        calls(2, 1, 0);
        due(0, "rank", 0);
        due(1, "rank", 1);
        rowIs(2, 2, 1, 3, 4);
        due(6, "rank", 2);
        due(6, "rank", 3);
        due(-1, "rank", 4);
        due(-1, "rank", FAR);
        due(-1, "rank", FAR_BELOW);
        method(6, PLAIN_BOB_6);
        calls(0);
        due(719, "rank", 6);
        method(5, 16, 1, 16, 1, 16, 1, 16, 1, 16, 1);
        calls(0);
        rowIs(5, 5, 4, 3, 2, 1);
        due(119, "rank", 5);
    }

    private void unrank() {
        begin("15, unrank");
        due(true, "bells", 4);
        int rank = 0;
        for (int row = 1234; row <= 4321; row++) {
            int[] bells = {row / 1000, row / 100 % 10, row / 10 % 10, row % 10};
            if (holdsOneToFour(bells)) {
                for (int place = 1; place <= 4; place++) {
                    due(bells[place - 1], "unrank", rank, place);
                }
                rank++;
            }
        }
        int[] wrongRanks = {24, -1, 720, FAR, FAR_BELOW};
        for (int wrong : wrongRanks) {
            due(-1, "unrank", wrong, 1);
        }
        int[] wrongPlaces = {0, 5, -1, FAR, FAR_BELOW};
        for (int wrong : wrongPlaces) {
            due(-1, "unrank", 3, wrong);
        }
        due(true, "bells", 5);
        due(5, "unrank", 119, 1);
        due(-1, "unrank", 120, 1);
        due(true, "bells", 6);
        due(6, "unrank", 719, 1);
        due(-1, "unrank", 720, 1);
    }

    private static boolean holdsOneToFour(int[] bells) {
        int seen = 0;
        for (int bell : bells) {
            seen |= 1 << bell;
        }
        return seen == 0b11110;
    }

    private void course() {
        begin("16, course");
        due(STATE, "course");
        method(4, PLAIN_BOB_4);
        due(3, "course");
        calls(0, 0);
        due(3, "course");
        touchIs(0, 0);
        method(6, PLAIN_BOB_6);
        due(5, "course");
        method(6, 63);
        due(1, "course");
        method(6, 33);
        due(2, "course");
        method(6, 57, 51);
        due(3, "course");
        method(6, 57, 51, 39);
        due(4, "course");
        method(6, 57, 51, 15);
        due(6, "course");
    }

    private void falseLeads() {
        begin("17, falseLeads");
        due(STATE, "falseLeads", 0, 0);
        due(STATE, "falseLeads", -1, 9999);
        method(4, 15, 3);
        due(true, "falseLeads", 0, 0);
        due(true, "falseLeads", 0, 1);
        due(false, "falseLeads", 0, 2);
        due(true, "falseLeads", 22, 23);
        due(false, "falseLeads", 1, 22);
        method(4, 3);
        due(true, "falseLeads", 5, 5);
        due(false, "falseLeads", 0, 1);
        due(false, "falseLeads", 1, 0);
        int[] wrongRanks = {24, -1, FAR, FAR_BELOW};
        for (int wrong : wrongRanks) {
            due(ARGUMENT, "falseLeads", wrong, 0);
            due(ARGUMENT, "falseLeads", 0, wrong);
            due(ARGUMENT, "falseLeads", wrong, wrong);
        }
        method(4, 9, 15);
        calls(0, 0);
        due(true, "falseLeads", 0, 0);
        touchIs(0, 0);
    }

    private void masksBehindTheMethod() {
        begin("masks behind the method do not count");
        give(4, 15, 3);
        due(0, "define", 1);
        calls(0);
        due(1, "rows");
        due(0, "rank", 1);
        due(1, "course");
        due(false, "falseLeads", 0, 1);
        due(false, "falseLeads", 1, 0);
        due(1, "count", 1, 1);
        due(0, "prove");
    }

    private void search() {
        begin("18, search");
        plainBob4();
        calls(2);
        due(1, "search", 1, 24, 100);
        touchIs(0, 0, 0);
        due(1, "search", 1, 8, 100);
        touchIs(1);
        due(0, "search", 1, 7, 100);
        touchIs(1);
        due(0, "looked");
        due(0, "search", 9, 23, 100);
        touchIs(1);
        due(1, "search", 9, 24, 100);
        touchIs(0, 0, 0);
        due(0, "search", 25, 720, 2000);
        touchIs(0, 0, 0);
    }

    private void searchOrder() {
        begin("18, search: order");
        stillMethod();
        due(1, "search", 1, 720, 2000);
        touchIs(0);
        due(1, "looked");
        due(1, "search", 2, 720, 2000);
        touchIs(1, 1);
        due(4, "looked");
        due(1, "search", 3, 720, 2000);
        touchIs(1, 2, 1, 2);
        due(10, "looked");
        due(0, "search", 5, 720, 2000);
        touchIs(1, 2, 1, 2);
        method(4, 15);
        due(true, "callNotation", 2, 3);
        due(1, "search", 2, 2, 2000);
        touchIs(2, 2);
        due(4, "looked");
    }

    private void searchBudget() {
        begin("18, search: budget");
        stillMethod();
        calls(2, 0);
        due(2, "search", 2, 720, 3);
        touchIs(2, 0);
        due(3, "looked");
        due(1, "search", 2, 720, 4);
        touchIs(1, 1);
        due(4, "looked");
        due(2, "search", 5, 720, 20);
        due(20, "looked");
        due(0, "search", 5, 720, 21);
        due(21, "looked");
        due(0, "search", 5, 720, 22);
        due(21, "looked");
        due(2, "search", 5, 720, 1);
        due(1, "looked");
        touchIs(1, 1);
    }

    private void searchThirtyCalls() {
        begin("18, search: thirty calls");
        method(6, 3);
        due(true, "callNotation", 1, 9);
        due(true, "callNotation", 2, 0);
        due(1, "search", 30, 720, 2000);
        touchIs(0, 1, 0, 1, 0, 2, 0, 1, 0, 1, 0, 2, 0, 1, 0, 1, 0, 2, 0, 1, 2, 1, 0, 1, 0, 1, 2, 1, 0, 2);
        due(650, "looked");
        due(0, "prove");
        due(2, "search", 31, 720, 2000);
        due(2000, "looked");
        due(30, "calls");
    }

    private void count() {
        begin("19, count");
        stillMethod();
        calls(2, 1);
        due(1, "count", 1, 2000);
        due(2, "count", 2, 2000);
        due(0, "count", 3, 2000);
        due(2, "count", 4, 2000);
        due(0, "count", 5, 2000);
        due(0, "count", 720, 2000);
        due(2, "count", 4, 21);
        due(-1, "count", 4, 20);
        due(-1, "count", 1, 1);
        touchIs(2, 1);
        due(1, "search", 4, 4, 2000);
        touchIs(1, 2, 1, 2);
        due(2, "count", 4, 2000);
        due(true, "falseLeads", 3, 3);
        due(2, "count", 4, 2000);
        touchIs(1, 2, 1, 2);
        method(4, 15, 3, 15);
        due(0, "count", 2, 1);
        due(0, "looked");
        method(4, PLAIN_BOB_4);
        due(1, "count", 24, 3);
        due(0, "count", 16, 3);
        due(0, "count", 8, 1);
    }

    private void looked() {
        begin("20, looked");
        due(0, "looked");
        stillMethod();
        due(0, "looked");
        due(2, "count", 2, 2000);
        due(9, "looked");
        due(0, "count", 3, 2000);
        due(15, "looked");
        due(-1, "count", 3, 14);
        due(14, "looked");
        due(1, "search", 1, 1, 2000);
        due(1, "looked");
        due(ARGUMENT, "search", 0, 1, 1);
        due(ARGUMENT, "count", 0, 1);
        due(0, "prove");
        due(2, "call", 1);
        due(1, "looked");
        due(false, "bells", 3);
        due(1, "looked");
        due(true, "bells", 4);
        due(0, "looked");
    }

    private void lookRefused() {
        begin("18 and 19, refused");
        due(STATE, "search", 1, 1, 1);
        due(STATE, "search", 0, 0, 0);
        due(STATE, "count", 1, 1);
        due(STATE, "count", 0, 0);
        stillMethod();
        calls(1, 2);
        int[] wrongRows = {0, -1, 721, FAR, FAR_BELOW};
        for (int wrong : wrongRows) {
            due(ARGUMENT, "search", wrong, wrong, 5);
            due(ARGUMENT, "search", wrong, 720, 5);
            due(ARGUMENT, "search", 1, wrong, 5);
            due(ARGUMENT, "count", wrong, 5);
        }
        due(ARGUMENT, "search", 6, 5, 5);
        int[] wrongBudgets = {0, -1, 2001, FAR, FAR_BELOW};
        for (int wrong : wrongBudgets) {
            due(ARGUMENT, "search", 1, 1, wrong);
            due(ARGUMENT, "count", 1, wrong);
        }
        touchIs(1, 2);
        due(0, "looked");
        due(0, "search", 720, 720, 2000);
        due(1, "search", 1, 1, 1);
    }

    private void pattern() {
        begin("21, pattern");
        due(true, "bells", 4);
        int[] wrongSlots = {-1, 4, FAR, FAR_BELOW};
        for (int wrong : wrongSlots) {
            due(false, "pattern", wrong, 1, 1);
        }
        int[] wrongPlaces = {0, 5, -1, FAR, FAR_BELOW};
        for (int wrong : wrongPlaces) {
            due(false, "pattern", 0, wrong, 1);
        }
        int[] wrongBells = {-1, 5, FAR, FAR_BELOW};
        for (int wrong : wrongBells) {
            due(false, "pattern", 0, 1, wrong);
        }
        for (int bell = 0; bell <= 4; bell++) {
            due(true, "pattern", 3, 4, bell);
        }
        plainBob4();
        calls(0, 0, 0);
        due(true, "pattern", 2, 4, 4);
        due(6, "music", 2);
        due(false, "pattern", 2, 4, 5);
        due(6, "music", 2);
        due(true, "pattern", 2, 1, 4);
        due(0, "music", 2);
        due(true, "pattern", 2, 1, 0);
        due(6, "music", 2);
        due(true, "pattern", 2, 4, 0);
        due(24, "music", 2);
        due(true, "bells", 6);
        due(true, "pattern", 0, 6, 6);
        due(false, "pattern", 0, 7, 6);
        due(false, "pattern", 0, 6, 7);
    }

    private void music() {
        begin("22, music");
        due(0, "music", 0);
        plainBob4();
        due(0, "music", 3);
        int[] wrongSlots = {-1, 4, FAR, FAR_BELOW};
        for (int wrong : wrongSlots) {
            due(-1, "music", wrong);
        }
        due(true, "pattern", 1, 1, 1);
        due(true, "pattern", 2, 3, 4);
        due(true, "pattern", 2, 4, 2);
        for (int place = 1; place <= 4; place++) {
            due(true, "pattern", 3, place, place);
        }
        calls(0);
        due(8, "music", 0);
        due(2, "music", 1);
        due(2, "music", 2);
        due(0, "music", 3);
        calls(0, 0, 0);
        due(24, "music", 0);
        due(6, "music", 1);
        due(2, "music", 2);
        due(1, "music", 3);
        calls(1, 1);
        due(16, "music", 0);
        due(4, "music", 1);
        due(2, "music", 3);
    }

    private void refusedChangesNothing() {
        begin("refused calls change nothing");
        plainBob4();
        calls(0, 1, 2);
        due(true, "pattern", 0, 4, 4);
        due(5, "music", 0);
        due(-1, "count", 24, 2);
        due(false, "bells", 7);
        due(false, "notation", 7, 15);
        due(false, "callNotation", 1, 15);
        due(false, "callNotation", 2, 0);
        due(3, "define", 2);
        due(ARGUMENT, "call", 3);
        due(false, "change", 0, 3);
        due(false, "keep", 4);
        due(false, "pattern", 0, 4, 5);
        due(ARGUMENT, "search", 1, 721, 1);
        due(ARGUMENT, "count", 1, 2001);
        due(ARGUMENT, "falseLeads", 24, 0);
        touchIs(0, 1, 2);
        due(24, "rows");
        due(5, "music", 0);
        due(2, "looked");
        rowIs(8, 1, 3, 4, 2);
        rowIs(16, 1, 3, 4, 2);
        rowIs(24, 1, 4, 3, 2);
    }
}
