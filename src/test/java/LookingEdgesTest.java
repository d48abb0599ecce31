/** Looking through lists of calls, with promises 18 to 20: the last value inside and the first one outside. */
public final class LookingEdgesTest extends DeskTest {
    /** On six bells with bobs by 9: just 2000 lists can be looked at, of up to 30 calls; true ones up to 120 rows. */
    private static final int[] LISTS_2000 = {60, 15, 36, 51};

    /** On five bells with bobs by 19 and singles by 16: just 2001 lists can be looked at; true ones up to 60 rows. */
    private static final int[] LISTS_2001 = {25, 16, 28, 1};

    /** On six bells with bobs by 57: 1388 lists can be looked at, and four more would have 31 calls. */
    private static final int[] LISTS_TO_THIRTY_CALLS = {36, 12, 3};

    private LookingEdgesTest() {
        super("LookingEdgesTest");
    }

    public static void main(String[] args) {
        LookingEdgesTest test = new LookingEdgesTest();
        test.emptyListIsNotLookedAt();
        test.plainThenBobThenSingle();
        test.listBeforeTheNextCall();
        test.callsThatHaveMasks();
        test.notMoreRows();
        test.notMoreThanThirtyCalls();
        test.thirtyCallsAreFound();
        test.listWithARepeatedRow();
        test.listThatEndsInRounds();
        test.listThatGoesOn();
        test.budgetOfOneList();
        test.budgetOfAllLists();
        test.budgetOfTwoThousandLists();
        test.oneListMoreThanTwoThousand();
        test.firstTrueListAtTheBudgetsEnd();
        test.firstTrueListAtTwoThousand();
        test.atLeastSoManyRows();
        test.upToSoManyRows();
        test.allRowsOfSixBells();
        test.foundListBecomesTheTouch();
        test.touchStays();
        test.limitsOfSearch();
        test.limitsOfCount();
        test.noMethod();
        test.justSoManyRows();
        test.countLooksUpToTheseRows();
        test.countWhenTheBudgetIsSpent();
        test.countLeavesTheTouch();
        test.latestSearchOrCount();
        test.noneSinceBells();
        test.refusedLooksDoNotCount();
        test.done();
    }

    private void found(int least, int most, int budget, int looked, int... kinds) {
        due(1, "search", least, most, budget);
        due(looked, "looked");
        touchIs(kinds);
    }

    private void notFound(int answer, int least, int most, int budget, int looked) {
        due(answer, "search", least, most, budget);
        due(looked, "looked");
    }

    private void counted(int answer, int rows, int budget, int looked) {
        due(answer, "count", rows, budget);
        due(looked, "looked");
    }

    private void emptyListIsNotLookedAt() {
        begin("the empty list is not looked at itself");
        method(4, 9, 9);
        notFound(0, 1, 1, 1, 0);
        counted(0, 1, 1, 0);
        found(1, 2, 1, 1, 0);
        counted(1, 2, 1, 1);
    }

    private void plainThenBobThenSingle() {
        begin("a call is put behind, first a plain one, then a bob, then a single");
        method(4, 15);
        callMasks(15, 15);
        found(1, 1, 2000, 1, 0);
        method(4, 3);
        callMasks(15, 15);
        found(1, 1, 2000, 2, 1);
        method(4, 3);
        callMasks(9, 15);
        found(1, 1, 2000, 3, 2);
    }

    private void listBeforeTheNextCall() {
        begin("the same is done with that list, and only then the next call is taken");
        plainBob4();
        found(1, 24, 2000, 3, 0, 0, 0);
        found(1, 23, 2000, 5, 1);
        found(1, 8, 2000, 2, 1);
    }

    private void callsThatHaveMasks() {
        begin("bobs and singles, if they have masks");
        method(4, 3);
        counted(0, 1, 2000, 1);
        due(true, "callNotation", 2, 15);
        counted(1, 1, 2000, 2);
        found(1, 1, 2000, 2, 2);
        due(true, "callNotation", 1, 0);
        counted(1, 1, 2000, 3);
        method(4, 3);
        due(true, "callNotation", 1, 15);
        counted(1, 1, 2000, 2);
        found(1, 1, 2000, 2, 1);
        due(true, "callNotation", 2, 15);
        counted(2, 1, 2000, 3);
    }

    private void notMoreRows() {
        begin("if there would not be more rows than that");
        method(6, PLAIN_BOB_6);
        counted(0, 11, 2000, 0);
        counted(0, 12, 2000, 1);
        counted(0, 13, 2000, 1);
        counted(0, 23, 2000, 1);
        counted(0, 24, 2000, 2);
        counted(0, 59, 2000, 4);
        counted(1, 60, 2000, 5);
        counted(0, 61, 2000, 5);
        counted(0, 720, 2000, 5);
    }

    private void notMoreThanThirtyCalls() {
        begin("nor more than 30 calls");
        method(6, LISTS_TO_THIRTY_CALLS);
        due(true, "callNotation", 1, 57);
        notFound(0, 55, 720, 2000, 1388);
        counted(0, 720, 2000, 1388);
        counted(0, 93, 2000, 1388);
        counted(0, 90, 2000, 1388);
    }

    private void thirtyCallsAreFound() {
        begin("lists of 30 calls are looked at");
        method(6, LISTS_2000);
        due(true, "callNotation", 1, 9);
        due(1, "search", 117, 720, 2000);
        due(30, "calls");
        due(120, "rows");
        due(0, "prove");
        due(276, "looked");
        due(6, "count", 120, 2000);
        method(6, 3);
        callMasks(9, 0);
        found(30, 720, 2000, 650,
                0, 1, 0, 1, 0, 2, 0, 1, 0, 1, 0, 2, 0, 1, 0, 1, 0, 2, 0, 1, 2, 1, 0, 1, 0, 1, 2, 1, 0, 2);
        due(0, "prove");
        notFound(2, 31, 720, 2000, 2000);
    }

    private void listWithARepeatedRow() {
        begin("a list with a repeated row is not gone on with");
        method(4, 9, 15);
        notFound(0, 1, 720, 2000, 1);
        method(4, 3, 3, 9);
        notFound(0, 1, 720, 2000, 1);
        method(4, 15, 9);
        notFound(0, 1, 720, 2000, 1);
        method(4, 15);
        due(true, "callNotation", 1, 3);
        notFound(0, 3, 720, 2000, 4);
    }

    private void listThatEndsInRounds() {
        begin("a list whose last row is rounds is not gone on with");
        method(4, 15);
        notFound(0, 2, 720, 2000, 1);
        counted(0, 2, 2000, 1);
        counted(1, 1, 2000, 1);
        method(4, 3);
        notFound(0, 3, 720, 2000, 2);
        counted(0, 4, 2000, 2);
        counted(1, 2, 2000, 2);
    }

    private void listThatGoesOn() {
        begin("a list with no repeated row and another last row is gone on with");
        method(4, PLAIN_BOB_4);
        counted(0, 23, 2000, 2);
        counted(1, 24, 2000, 3);
        counted(0, 25, 2000, 3);
        counted(0, 720, 2000, 3);
    }

    private void budgetOfOneList() {
        begin("at most budget lists are looked at: one");
        method(4, 15);
        notFound(0, 2, 720, 1, 1);
        counted(1, 1, 1, 1);
        due(true, "callNotation", 1, 15);
        notFound(2, 2, 720, 1, 1);
        counted(NONE, 1, 1, 1);
        notFound(0, 2, 720, 2, 2);
        counted(2, 1, 2, 2);
    }

    private void budgetOfAllLists() {
        begin("at most budget lists are looked at: all there are");
        stillMethod();
        notFound(2, 5, 720, 20, 20);
        notFound(0, 5, 720, 21, 21);
        notFound(0, 5, 720, 22, 21);
        counted(NONE, 4, 20, 20);
        counted(2, 4, 21, 21);
        counted(2, 4, 22, 21);
    }

    private void budgetOfTwoThousandLists() {
        begin("2000 lists, and a budget of 2000");
        method(6, LISTS_2000);
        due(true, "callNotation", 1, 9);
        notFound(2, 121, 720, 1999, 1999);
        notFound(0, 121, 720, 2000, 2000);
        counted(NONE, 720, 1999, 1999);
        counted(0, 720, 2000, 2000);
        counted(6, 120, 2000, 2000);
    }

    private void oneListMoreThanTwoThousand() {
        begin("2001 lists, and a budget of 2000");
        method(5, LISTS_2001);
        callMasks(19, 16);
        notFound(2, 61, 720, 2000, 2000);
        counted(NONE, 720, 2000, 2000);
    }

    private void firstTrueListAtTheBudgetsEnd() {
        begin("the first true list is the last that the budget allows");
        stillMethod();
        notFound(2, 2, 720, 3, 3);
        found(2, 720, 4, 4, 1, 1);
        notFound(2, 3, 720, 9, 9);
        found(3, 720, 10, 10, 1, 2, 1, 2);
    }

    private void firstTrueListAtTwoThousand() {
        begin("the first true list is the 2000th, or the one behind it");
        method(6, 57, 33);
        callMasks(60, 0);
        notFound(2, 60, 720, 1999, 1999);
        touchIs();
        notFound(1, 60, 720, 2000, 2000);
        due(30, "calls");
        due(0, "prove");
        method(6, 9, 15);
        callMasks(39, 48);
        notFound(2, 60, 720, 2000, 2000);
        touchIs();
    }

    private void atLeastSoManyRows() {
        begin("18, the first true one with at least so many rows");
        stillMethod();
        found(1, 720, 2000, 1, 0);
        found(2, 720, 2000, 4, 1, 1);
        found(3, 720, 2000, 10, 1, 2, 1, 2);
        found(4, 720, 2000, 10, 1, 2, 1, 2);
        notFound(0, 5, 720, 2000, 21);
        method(6, PLAIN_BOB_6);
        found(60, 720, 2000, 5, 0, 0, 0, 0, 0);
        notFound(0, 61, 720, 2000, 5);
    }

    private void upToSoManyRows() {
        begin("18, up to most rows");
        stillMethod();
        notFound(0, 3, 3, 2000, 15);
        found(3, 4, 2000, 10, 1, 2, 1, 2);
        found(2, 2, 2000, 4, 1, 1);
        found(2, 3, 2000, 4, 1, 1);
        found(1, 1, 2000, 1, 0);
        method(6, PLAIN_BOB_6);
        notFound(0, 1, 59, 2000, 4);
        found(1, 60, 2000, 5, 0, 0, 0, 0, 0);
        found(60, 60, 2000, 5, 0, 0, 0, 0, 0);
    }

    private void allRowsOfSixBells() {
        begin("18, 720 rows");
        method(6, EXTENT_6);
        callMasks(48, 12);
        notFound(2, 720, 720, 1215, 1215);
        notFound(2, 649, 719, 2000, 2000);
        touchIs();
        notFound(1, 720, 720, 1216, 1216);
        due(30, "calls");
        due(720, "rows");
        due(0, "prove");
        notFound(1, 719, 720, 2000, 1216);
        counted(NONE, 720, 2000, 2000);
    }

    private void foundListBecomesTheTouch() {
        begin("18, that becomes the touch");
        stillMethod();
        callsOfOneKind(2, 30);
        found(1, 1, 2000, 1, 0);
        due(1, "rows");
        due(NONE, "rank", 2);
        found(4, 4, 2000, 10, 1, 2, 1, 2);
        due(4, "rows");
        due(0, "rank", 4);
        due(false, "callNotation", 1, 9);
        due(5, "call", 2);
        touchIs(1, 2, 1, 2, 2);
        due(true, "keep", 2);
        touchIs(1, 2);
    }

    private void touchStays() {
        begin("18, 0 when there is none, 2 when the budget was spent before; then the touch stays");
        stillMethod();
        notFound(0, 5, 720, 2000, 21);
        touchIs();
        notFound(2, 5, 720, 20, 20);
        touchIs();
        calls(2, 0, 1);
        notFound(0, 5, 720, 2000, 21);
        touchIs(2, 0, 1);
        notFound(2, 5, 720, 20, 20);
        touchIs(2, 0, 1);
        due(3, "rows");
        rowIs(3, 2, 1, 3, 4);
    }

    private void limitsOfSearch() {
        begin("18, not 1 <= least <= most <= 720, or budget is not 1 .. 2000");
        method(4, 15);
        due(1, "search", 1, 1, 1);
        due(ARGUMENT, "search", 0, 1, 1);
        due(ARGUMENT, "search", 0, 0, 1);
        due(ARGUMENT, "search", 1, 0, 1);
        due(ARGUMENT, "search", 2, 1, 1);
        due(0, "search", 2, 2, 1);
        due(1, "search", 1, 720, 1);
        due(0, "search", 720, 720, 1);
        due(ARGUMENT, "search", 720, 719, 1);
        due(ARGUMENT, "search", 1, 721, 1);
        due(ARGUMENT, "search", 720, 721, 1);
        due(ARGUMENT, "search", 721, 721, 1);
        due(ARGUMENT, "search", 721, 720, 1);
        due(1, "search", 1, 1, 2000);
        due(ARGUMENT, "search", 1, 1, 2001);
        due(ARGUMENT, "search", 1, 1, 0);
        int[] far = {-1, FAR, FAR_BELOW};
        for (int wrong : far) {
            due(ARGUMENT, "search", wrong, 720, 1);
            due(ARGUMENT, "search", 1, wrong, 1);
            due(ARGUMENT, "search", wrong, wrong, 1);
            due(ARGUMENT, "search", 1, 1, wrong);
        }
    }

    private void limitsOfCount() {
        begin("19, exceptions as for search()");
        method(4, 15);
        due(1, "count", 1, 1);
        due(ARGUMENT, "count", 0, 1);
        due(0, "count", 720, 1);
        due(ARGUMENT, "count", 721, 1);
        due(1, "count", 1, 2000);
        due(ARGUMENT, "count", 1, 2001);
        due(ARGUMENT, "count", 1, 0);
        int[] far = {-1, FAR, FAR_BELOW};
        for (int wrong : far) {
            due(ARGUMENT, "count", wrong, 1);
            due(ARGUMENT, "count", 1, wrong);
        }
    }

    private void noMethod() {
        begin("18 and 19, IllegalStateException: there is no method");
        due(STATE, "search", 1, 1, 1);
        due(STATE, "count", 1, 1);
        give(4, 15);
        due(STATE, "search", 1, 1, 1);
        due(STATE, "count", 1, 1);
        due(STATE, "search", 0, 0, 0);
        due(STATE, "count", 721, 2001);
        due(0, "define", 1);
        due(1, "search", 1, 1, 1);
        due(1, "count", 1, 1);
        due(true, "bells", 4);
        due(STATE, "search", 1, 1, 1);
        due(STATE, "count", 1, 1);
    }

    private void justSoManyRows() {
        begin("19, how many true touches have just so many rows");
        stillMethod();
        due(1, "count", 1, 2000);
        due(2, "count", 2, 2000);
        due(0, "count", 3, 2000);
        due(2, "count", 4, 2000);
        due(0, "count", 5, 2000);
        due(0, "count", 720, 2000);
        method(6, PLAIN_BOB_6);
        due(0, "count", 59, 2000);
        due(1, "count", 60, 2000);
        due(0, "count", 61, 2000);
    }

    private void countLooksUpToTheseRows() {
        begin("19, looking through lists up to these");
        stillMethod();
        counted(1, 1, 2000, 3);
        counted(2, 2, 2000, 9);
        counted(0, 3, 2000, 15);
        counted(2, 4, 2000, 21);
        counted(0, 5, 2000, 21);
    }

    private void countWhenTheBudgetIsSpent() {
        begin("19, NONE when the budget was spent before");
        stillMethod();
        counted(NONE, 1, 1, 1);
        counted(NONE, 1, 2, 2);
        counted(1, 1, 3, 3);
        counted(NONE, 2, 8, 8);
        counted(2, 2, 9, 9);
        counted(NONE, 3, 14, 14);
        counted(0, 3, 15, 15);
    }

    private void countLeavesTheTouch() {
        begin("19, a count leaves the touch");
        stillMethod();
        due(2, "count", 2, 2000);
        touchIs();
        calls(2, 0);
        due(2, "count", 4, 2000);
        touchIs(2, 0);
        due(NONE, "count", 4, 20);
        touchIs(2, 0);
    }

    private void latestSearchOrCount() {
        begin("20, how many lists the latest search() or count() looked at");
        stillMethod();
        due(2, "count", 4, 2000);
        due(21, "looked");
        due(1, "search", 1, 1, 2000);
        due(1, "looked");
        due(0, "count", 3, 2000);
        due(15, "looked");
        due(2, "search", 5, 720, 7);
        due(7, "looked");
        due(2, "call", 1);
        due(true, "change", 0, 1);
        due(0, "prove");
        due(1, "course");
        due(false, "falseLeads", 0, 1);
        due(true, "keep", 0);
        due(7, "looked");
        method(4, 15, 15);
        due(0, "count", 1, 1);
        due(0, "looked");
    }

    private void noneSinceBells() {
        begin("20, 0 when there was none since bells()");
        due(0, "looked");
        stillMethod();
        due(0, "looked");
        due(1, "count", 1, 2000);
        due(3, "looked");
        due(false, "bells", 3);
        due(false, "bells", 7);
        due(3, "looked");
        due(true, "bells", 4);
        due(0, "looked");
        method(4, 15);
        due(0, "looked");
        due(1, "search", 1, 1, 1);
        due(1, "looked");
        due(true, "bells", 6);
        due(0, "looked");
    }

    private void refusedLooksDoNotCount() {
        begin("20, a search() or count() that throws leaves looked()");
        due(STATE, "search", 1, 1, 1);
        due(STATE, "count", 1, 1);
        due(0, "looked");
        stillMethod();
        due(ARGUMENT, "search", 0, 1, 1);
        due(ARGUMENT, "count", 1, 0);
        due(0, "looked");
        due(1, "count", 1, 2000);
        due(ARGUMENT, "search", 1, 721, 1);
        due(ARGUMENT, "search", 1, 720, 2001);
        due(ARGUMENT, "count", 721, 1);
        due(ARGUMENT, "count", 1, 2001);
        due(3, "looked");
    }
}
