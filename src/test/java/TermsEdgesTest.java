import java.util.ArrayList;
import java.util.List;
import java.util.Set;
import java.util.TreeSet;

/** "Terms" of the document, sentence by sentence: at the last value inside and at the first one outside. */
public final class TermsEdgesTest extends DeskTest {
    private TermsEdgesTest() {
        super("TermsEdgesTest");
    }

    public static void main(String[] args) {
        TermsEdgesTest test = new TermsEdgesTest();
        test.lastCallPromised();
        test.bellsFromFourToSix();
        test.roundsIsRowZero();
        test.everyRankOfFourBells();
        test.ranksWhereTheFirstBellsChange();
        test.ranksOfAllRowsOfSixBells();
        test.stretchesOfEvenLength();
        test.everyMask();
        test.placesThatThereAreNot();
        test.changesByEveryGoodMask();
        test.changesOfRowsOtherThanRounds();
        test.methodOfOneToTwentyFourMasks();
        test.callsHaveMasksOnceGiven();
        test.leadOfOneChange();
        test.leadOfTwoChanges();
        test.leadOfTwentyFourChanges();
        test.masksOneAfterTheOther();
        test.touchIsEmptyAtFirst();
        test.touchOfThirtyCalls();
        test.rowsUpToN();
        test.rowZeroIsNotRepeated();
        test.anEarlierRowIsTheSame();
        test.lastRowThatIsRounds();
        test.lastRowThatIsRoundsBehindAnotherRounds();
        test.lastRowThatIsNotRounds();
        test.repeatedWithinALead();
        test.repeatedAtTheFarEnd();
        test.trueTouches();
        test.fourPatterns();
        test.patternOfAnyBells();
        test.patternOfEveryPlace();
        test.exceptionsInTheirOrder();
        test.done();
    }

    private void lastCallPromised() {
        begin("an object is used for at most 512 calls");
        stillMethod();
        while (callsLeft() > 3) {
            due(1, "call", 1);
            due(true, "keep", 0);
        }
        while (callsLeft() > 1) {
            due(0, "calls");
        }
        due(2, "count", 4, 2000);
        same("calls left", callsLeft(), 0);
    }

    private void bellsFromFourToSix() {
        begin("there are 4 to 6 bells, numbered from 1 on, at places from 1 on");
        due(false, "bells", 3);
        due(true, "bells", 4);
        rowIs(0, 1, 2, 3, 4);
        due(NONE, "bell", 0, 0);
        due(true, "bells", 5);
        rowIs(0, 1, 2, 3, 4, 5);
        due(NONE, "bell", 0, 0);
        due(true, "bells", 6);
        rowIs(0, 1, 2, 3, 4, 5, 6);
        due(NONE, "bell", 0, 0);
        due(false, "bells", 7);
        rowIs(0, 1, 2, 3, 4, 5, 6);
    }

    private void roundsIsRowZero() {
        for (int bells = 4; bells <= 6; bells++) {
            begin("rounds has bell k at place k, and rank 0, on " + bells);
            due(true, "bells", bells);
            due(0, "rank", 0);
            for (int place = 1; place <= bells; place++) {
                due(place, "bell", 0, place);
                due(place, "unrank", 0, place);
            }
        }
    }

    /** Rows read as decimal numbers are in the order of their ranks. */
    private static List<Integer> rowsInOrder(int bells) {
        List<Integer> rows = new ArrayList<>();
        int all = (1 << bells + 1) - 2;
        int end = (int) Math.pow(10, bells);
        for (int row = end / 10; row < end; row++) {
            int seen = 0;
            for (int rest = row; rest > 0; rest /= 10) {
                seen |= 1 << rest % 10;
            }
            if (seen == all) {
                rows.add(row);
            }
        }
        return rows;
    }

    private void unranksTo(int rank, int bells, int row) {
        int rest = row;
        for (int place = bells; place >= 1; place--) {
            due(rest % 10, "unrank", rank, place);
            rest /= 10;
        }
    }

    private void everyRankOfFourBells() {
        begin("the rank is how many rows come before");
        due(true, "bells", 4);
        List<Integer> rows = rowsInOrder(4);
        same("rows of four bells", rows.size(), 24);
        for (int rank = 0; rank < 24; rank++) {
            unranksTo(rank, 4, rows.get(rank));
        }
    }

    private void ranksWhereTheFirstBellsChange() {
        begin("rows are compared from place 1 on, lesser bells first");
        due(true, "bells", 5);
        unranksTo(0, 5, 12345);
        unranksTo(1, 5, 12354);
        unranksTo(5, 5, 12543);
        unranksTo(6, 5, 13245);
        unranksTo(23, 5, 15432);
        unranksTo(24, 5, 21345);
        unranksTo(95, 5, 45321);
        unranksTo(96, 5, 51234);
        unranksTo(119, 5, 54321);
        due(true, "bells", 6);
        unranksTo(0, 6, 123456);
        unranksTo(1, 6, 123465);
        unranksTo(23, 6, 126543);
        unranksTo(24, 6, 132456);
        unranksTo(119, 6, 165432);
        unranksTo(120, 6, 213456);
        unranksTo(599, 6, 564321);
        unranksTo(600, 6, 612345);
        unranksTo(718, 6, 654312);
        unranksTo(719, 6, 654321);
    }

    private void ranksOfAllRowsOfSixBells() {
        List<Integer> rows = rowsInOrder(6);
        Set<Integer> ranks = new TreeSet<>();
        int i = 1;
        while (i <= 720) {
            begin("the rank of a row that was rung");
            extent();
            while (i <= 720 && callsLeft() >= 13) {
                int row = rungRow(i);
                int rank = rows.indexOf(row);
                due(rank, "rank", i);
                unranksTo(rank, 6, row);
                ranks.add(rank);
                i++;
            }
        }
        same("different ranks in 720 rows", ranks.size(), 720);
    }

    private void extent() {
        method(6, EXTENT_6);
        callMasks(48, 12);
        due(1, "search", 720, 720, 2000);
    }

    private int rungRow(int i) {
        int row = 0;
        for (int place = 1; place <= 6; place++) {
            row = row * 10 + answer("bell", i, place);
        }
        return row;
    }

    /** A mask of all places but those from one to another. */
    private static int without(int bells, int from, int to) {
        int mask = (1 << bells) - 1;
        for (int place = from; place <= to; place++) {
            mask -= 1 << (place - 1);
        }
        return mask;
    }

    private void stretchesOfEvenLength() {
        begin("a mask is good when each longest stretch outside it is of even length");
        for (int bells = 4; bells <= 6; bells++) {
            due(true, "bells", bells);
            due(true, "notation", 0, (1 << bells) - 1);
            for (int from = 1; from <= bells; from++) {
                for (int to = from; to <= bells; to++) {
                    boolean even = (to - from + 1) % 2 == 0;
                    due(even, "notation", 0, without(bells, from, to));
                    due(even, "callNotation", 1, without(bells, from, to));
                }
            }
        }
        int firstAndThird = 63 - 1 - 4;
        int firstThreeAndLast = 63 - 1 - 2 - 4 - 32;
        int twoPairs = 63 - 1 - 2 - 8 - 16;
        due(false, "notation", 0, firstAndThird);
        due(false, "notation", 0, firstThreeAndLast);
        due(true, "notation", 0, twoPairs);
    }

    private void everyMask() {
        everyMaskOf(4, Set.of(0, 3, 9, 12, 15));
        everyMaskOf(5, Set.of(1, 4, 16, 7, 19, 25, 28, 31));
        everyMaskOf(6, Set.of(0, 3, 9, 12, 15, 33, 36, 39, 48, 51, 57, 60, 63));
    }

    private void everyMaskOf(int bells, Set<Integer> good) {
        begin("every mask of " + bells + " bells");
        due(true, "bells", bells);
        for (int mask = -2; mask < 1 << bells + 1; mask++) {
            due(good.contains(mask), "notation", 0, mask);
            due(good.contains(mask), "callNotation", 1, mask);
            due(good.contains(mask), "callNotation", 2, mask);
        }
    }

    private void placesThatThereAreNot() {
        begin("a mask has no other places than there are");
        for (int bells = 4; bells <= 6; bells++) {
            due(true, "bells", bells);
            int all = (1 << bells) - 1;
            due(true, "notation", 0, all);
            for (int place = bells + 1; place <= 32; place++) {
                due(false, "notation", 0, all | 1 << (place - 1));
                due(false, "callNotation", 1, all | 1 << (place - 1));
            }
            due(false, "notation", 0, -1);
            due(false, "notation", 0, FAR);
            due(false, "notation", 0, FAR_BELOW);
        }
    }

    /** As a bob's mask, since a bob may leave the treble anywhere. */
    private void changeIs(int bells, int mask, int row) {
        due(true, "keep", 0);
        due(true, "callNotation", 1, mask);
        due(1, "call", 1);
        int rest = row;
        for (int place = bells; place >= 1; place--) {
            due(rest % 10, "bell", 1, place);
            rest /= 10;
        }
    }

    private void changesByEveryGoodMask() {
        begin("a change: the bells of a mask stay, the others change places two by two");
        method(4, 15);
        changeIs(4, 0, 2143);
        changeIs(4, 3, 1243);
        changeIs(4, 9, 1324);
        changeIs(4, 12, 2134);
        changeIs(4, 15, 1234);
        method(5, 31);
        changeIs(5, 1, 13254);
        changeIs(5, 4, 21354);
        changeIs(5, 16, 21435);
        changeIs(5, 7, 12354);
        changeIs(5, 19, 12435);
        changeIs(5, 25, 13245);
        changeIs(5, 28, 21345);
        changeIs(5, 31, 12345);
        method(6, 63);
        changeIs(6, 0, 214365);
        changeIs(6, 3, 124365);
        changeIs(6, 9, 132465);
        changeIs(6, 12, 213465);
        changeIs(6, 15, 123465);
        changeIs(6, 33, 132546);
        changeIs(6, 36, 213546);
        changeIs(6, 39, 123546);
        changeIs(6, 48, 214356);
        changeIs(6, 51, 124356);
        changeIs(6, 57, 132456);
        changeIs(6, 60, 213456);
        changeIs(6, 63, 123456);
    }

    private void changesOfRowsOtherThanRounds() {
        begin("a change moves the bells that are at the places");
        method(6, 63);
        callMasks(36, 33);
        calls(2, 1, 2);
        rowIs(1, 1, 3, 2, 5, 4, 6);
        rowIs(2, 3, 1, 2, 4, 5, 6);
        rowIs(3, 3, 2, 1, 5, 4, 6);
    }

    private void methodOfOneToTwentyFourMasks() {
        begin("a method is a row of 1 to 24 good masks");
        give(4, copies(15, 24));
        due(1, "define", 0);
        due(STATE, "course");
        due(1, "define", 25);
        due(STATE, "course");
        due(0, "define", 24);
        calls(0);
        due(24, "rows");
        give(4, copies(15, 24));
        due(0, "define", 1);
        calls(0);
        due(1, "rows");
        method(4, 15);
        calls(0);
        due(1, "rows");
    }

    private void callsHaveMasksOnceGiven() {
        begin("a bob and a single have a mask each, once it was given");
        method(4, 15);
        due(1, "call", 0);
        due(ARGUMENT, "call", 1);
        due(ARGUMENT, "call", 2);
        due(true, "callNotation", 2, 3);
        due(ARGUMENT, "call", 1);
        due(2, "call", 2);
        due(true, "callNotation", 1, 0);
        due(3, "call", 1);
        method(4, 15);
        due(true, "callNotation", 1, 0);
        due(1, "call", 1);
        due(ARGUMENT, "call", 2);
        due(1, "rows");
        give(4, 15);
        callMasks(0, 3);
        due(0, "define", 1);
        due(1, "call", 1);
        due(2, "call", 2);
    }

    private void leadOfOneChange() {
        begin("a lead of one change is by the call's mask alone");
        stillMethod();
        calls(0, 1, 2);
        rowIs(1, 1, 2, 3, 4);
        rowIs(2, 2, 1, 4, 3);
        rowIs(3, 2, 1, 3, 4);
    }

    private void leadOfTwoChanges() {
        begin("the last change of a lead is by the call's mask, and no other");
        method(4, 0, 0);
        callMasks(9, 3);
        calls(0);
        rowIs(1, 2, 1, 4, 3);
        rowIs(2, 1, 2, 3, 4);
        calls(1, 0);
        rowIs(1, 2, 1, 4, 3);
        rowIs(2, 2, 4, 1, 3);
        rowIs(3, 4, 2, 3, 1);
        rowIs(4, 2, 4, 1, 3);
        calls(2, 1);
        rowIs(1, 2, 1, 4, 3);
        rowIs(2, 2, 1, 3, 4);
        rowIs(3, 1, 2, 4, 3);
        rowIs(4, 1, 4, 2, 3);
    }

    private void leadOfTwentyFourChanges() {
        begin("a lead of 24 changes");
        method(4, copies(15, 24));
        callMasks(0, 3);
        calls(1, 0, 2);
        rowIs(23, 1, 2, 3, 4);
        rowIs(24, 2, 1, 4, 3);
        rowIs(48, 2, 1, 4, 3);
        rowIs(71, 2, 1, 4, 3);
        rowIs(72, 2, 1, 3, 4);
        due(NONE, "bell", 73, 1);
    }

    private void masksOneAfterTheOther() {
        begin("a lead goes through the masks one after the other");
        method(4, 9, 3, 12, 12);
        calls(0, 0);
        rowIs(1, 1, 3, 2, 4);
        rowIs(2, 1, 3, 4, 2);
        rowIs(3, 3, 1, 4, 2);
        rowIs(4, 1, 3, 4, 2);
        rowIs(5, 1, 4, 3, 2);
    }

    private void touchIsEmptyAtFirst() {
        begin("a touch is empty at first");
        touchIs();
        due(0, "rows");
        stillMethod();
        touchIs();
        due(0, "rows");
    }

    private void touchOfThirtyCalls() {
        begin("a touch is a list of up to 30 calls");
        stillMethod();
        callsOfOneKind(1, 29);
        due(30, "call", 2);
        due(UNSUPPORTED, "call", 2);
        due(30, "calls");
        due(2, "callAt", 29);
        due(NONE, "callAt", 30);
        due(30, "rows");
    }

    private void rowsUpToN() {
        begin("after each change there is a further row, 1, 2, .. up to N");
        method(4, 15, 9, 9);
        due(0, "rank", 0);
        due(NONE, "rank", 1);
        due(1, "call", 0);
        due(0, "rank", 1);
        due(2, "rank", 2);
        due(0, "rank", 3);
        due(NONE, "rank", 4);
        due(2, "call", 0);
        due(2, "rank", 5);
        due(0, "rank", 6);
        due(NONE, "rank", 7);
        method(6, copies(63, 24));
        callsOfOneKind(0, 30);
        due(720, "rows");
        due(0, "rank", 720);
        due(NONE, "rank", 721);
        due(6, "bell", 720, 6);
        due(NONE, "bell", 721, 6);
    }

    private void rowZeroIsNotRepeated() {
        begin("a row is repeated only when i is above 0");
        due(0, "prove");
        stillMethod();
        due(0, "prove");
        calls(1);
        due(NONE, "prove");
    }

    private void anEarlierRowIsTheSame() {
        begin("a row is repeated when an earlier row is the same");
        stillMethod();
        calls(0, 1);
        due(1, "prove");
        calls(1, 0, 2);
        due(2, "prove");
        calls(1, 2, 2, 0, 0);
        due(3, "prove");
        calls(1, 2, 1);
        due(NONE, "prove");
        calls(1, 2, 1, 1, 0);
        due(4, "prove");
    }

    private void lastRowThatIsRounds() {
        begin("row N, if it is rounds, is not repeated when no row between is");
        stillMethod();
        calls(0);
        due(0, "prove");
        calls(1, 1);
        due(0, "prove");
        calls(1, 2, 1, 2);
        due(0, "prove");
        method(4, 9, 9);
        calls(0);
        due(0, "prove");
    }

    private void lastRowThatIsRoundsBehindAnotherRounds() {
        begin("row N that is rounds, with a repeated row between");
        stillMethod();
        calls(0, 0);
        due(1, "prove");
        calls(1, 1, 0);
        due(2, "prove");
        calls(1, 2, 1, 2, 0);
        due(4, "prove");
        calls(1, 0, 1);
        due(2, "prove");
        callsOfOneKind(0, 30);
        due(1, "prove");
    }

    private void lastRowThatIsNotRounds() {
        begin("row N that is not rounds is repeated like any other");
        stillMethod();
        calls(1, 0);
        due(2, "prove");
        calls(1, 2, 2);
        due(3, "prove");
        calls(1, 2, 1, 1);
        due(4, "prove");
    }

    private void repeatedWithinALead() {
        begin("a row is repeated within a lead");
        method(4, 0, 0, 9);
        calls(0);
        due(2, "prove");
        method(4, 9, 0, 0);
        calls(0);
        due(3, "prove");
        method(4, 15, 15);
        calls(0);
        due(1, "prove");
        method(4, 9, 15, 9);
        calls(0);
        due(2, "prove");
    }

    private void repeatedAtTheFarEnd() {
        begin("all 720 rows, and the last one no rounds");
        extent();
        due(720, "rows");
        due(0, "prove");
        int last = answer("callAt", 29);
        for (int kind = 0; kind <= 2; kind++) {
            due(true, "change", 29, kind);
            due(kind == last ? 0 : 720, "prove");
        }
        due(true, "keep", 29);
        due(696, "rows");
        due(NONE, "prove");
    }

    private void trueTouches() {
        begin("a touch is true when it has a call, row N is rounds, and no row is repeated");
        stillMethod();
        due(1, "search", 1, 1, 1);
        touchIs(0);
        calls(1, 1);
        due(0, "prove");
        calls(1);
        due(NONE, "prove");
        calls(1, 0, 1);
        due(2, "prove");
        due(2, "count", 2, 2000);
        method(4, 3);
        due(0, "count", 1, 2000);
        due(1, "count", 2, 2000);
        due(0, "count", 3, 2000);
        due(0, "count", 4, 2000);
    }

    private void fourPatterns() {
        begin("there are four patterns, 0 .. 3");
        method(4, 3);
        calls(0);
        due(false, "pattern", -1, 1, 2);
        due(NONE, "music", -1);
        due(false, "pattern", 4, 1, 2);
        due(NONE, "music", 4);
        for (int slot = 0; slot <= 3; slot++) {
            for (int other = 0; other <= 3; other++) {
                due(other < slot ? 0 : 1, "music", other);
            }
            due(true, "pattern", slot, 1, 2);
            due(0, "music", slot);
        }
    }

    private void patternOfAnyBells() {
        begin("a pattern has 0 for any bell, and all 0 at first");
        plainBob4();
        calls(0, 1);
        for (int slot = 0; slot <= 3; slot++) {
            due(16, "music", slot);
        }
        due(true, "pattern", 3, 2, 1);
        due(4, "music", 3);
        due(true, "pattern", 3, 2, 0);
        due(16, "music", 3);
    }

    private void patternOfEveryPlace() {
        begin("a row matches when it has the bell at each place for which there is one");
        method(6, 63);
        calls(0);
        for (int place = 1; place <= 6; place++) {
            due(true, "pattern", 0, place, place);
            due(1, "music", 0);
        }
        for (int place = 1; place <= 6; place++) {
            due(true, "pattern", 0, place, place % 6 + 1);
            due(0, "music", 0);
            due(true, "pattern", 0, place, place);
            due(1, "music", 0);
        }
        due(true, "pattern", 1, 1, 1);
        due(true, "pattern", 1, 6, 1);
        due(0, "music", 1);
    }

    private void exceptionsInTheirOrder() {
        begin("the exception named first when several would do");
        due(STATE, "call", 3);
        due(STATE, "falseLeads", 720, -1);
        due(STATE, "search", 0, 721, 0);
        due(STATE, "count", 0, 0);
        method(4, 15);
        callsOfOneKind(0, 30);
        due(ARGUMENT, "call", 3);
        due(ARGUMENT, "call", -1);
        due(ARGUMENT, "call", 1);
        due(ARGUMENT, "call", 2);
        due(UNSUPPORTED, "call", 0);
        callMasks(0, 3);
        due(UNSUPPORTED, "call", 1);
        due(UNSUPPORTED, "call", 2);
        due(ARGUMENT, "call", 3);
    }
}
