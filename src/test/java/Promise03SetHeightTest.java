/** Promise 3: setHeight. */
public final class Promise03SetHeightTest extends PromiseTests {

    public static void main(String[] args) {
        runAll(Promise03SetHeightTest.class);
    }

    @Sentence("- `cell`: 0 to 143")
    static void theFirstAndTheLastCell() {
        new Run().due(0, "setHeight", 0, 3).due(0, "setHeight", 143, 4).due(7, "count", 4)
                .dueHeights(0, 3, 0).dueHeights(142, 0, 4);
    }

    @Sentence("Throws `IndexOutOfBoundsException` if the cell does not exist")
    static void theCellBeforeTheFirst() {
        Run.some().refused(INDEX, "setHeight", -1, 1).refused(INDEX, "setHeight", MIN, 1);
    }

    @Sentence("Throws `IndexOutOfBoundsException` if the cell does not exist")
    static void theCellBehindTheLast() {
        Run.some().refused(INDEX, "setHeight", 144, 1).refused(INDEX, "setHeight", MAX, 1);
    }

    @Sentence("- `height`: 0 to 500")
    static void theLeastAndTheGreatestHeight() {
        new Run().due(0, "setHeight", 50, 500).due(500, "count", 3).due(500, "setHeight", 50, 0).due(0, "count", 3)
                .due(0, "setHeight", 50, 0);
    }

    @Sentence("Throws `IllegalArgumentException` if height is not 0 to 500")
    static void aHeightTooSmall() {
        Run.some().refused(ARGUMENT, "setHeight", 100, -1).refused(ARGUMENT, "setHeight", 0, MIN);
    }

    @Sentence("Throws `IllegalArgumentException` if height is not 0 to 500")
    static void aHeightTooLarge() {
        Run.some().refused(ARGUMENT, "setHeight", 100, 501).refused(ARGUMENT, "setHeight", 143, MAX);
    }

    @Sentence("If several exceptions apply, the one that is named first in the throws clause is thrown.")
    static void neitherCellNorHeightIsRight() {
        Run.some().refused(INDEX, "setHeight", 144, 501).refused(INDEX, "setHeight", -1, -1)
                .refused(INDEX, "setHeight", MAX, MIN);
    }

    @Sentence("Sets the height of a cell.")
    static void eachCellHasAHeightOfItsOwn() {
        Run x = new Run();
        for (int cell = 0; cell < 144; cell++) {
            x.call("setHeight", cell, cell + 200);
        }
        x.due(144 * 200 + 143 * 72, "count", 4);
        for (int cell = 0; cell < 144; cell++) {
            x.due(cell + 200, "setHeight", cell, 0);
        }
        x.due(0, "count", 4);
    }

    @Sentence("The eye of a station is the height of its cell plus its mast.")
    static void aStationRisesAndSinksWithItsCell() {
        new Run().call("addStation", 70, 50, 1).call("setHeight", 70, 500).due(550, "station", 0, 3)
                .call("setHeight", 70, 0).due(50, "station", 0, 3).call("setHeight", 71, 9).due(50, "station", 0, 3);
    }

    @Sentence("Returns the previous height.")
    static void returnsWhatWasThereBefore() {
        new Run().due(0, "setHeight", 9, 20).due(20, "setHeight", 9, 20).due(20, "setHeight", 9, 500)
                .due(500, "setHeight", 9, 1).refused(ARGUMENT, "setHeight", 9, 501).due(1, "setHeight", 9, 0);
    }

    @Sentence({"The terrain has 12 columns and 12 rows of cells",
        "x is the column from 0 (growing to the east), y the row from 0 (growing to the south), and the number of a"
            + " cell is 12 * y + x."})
    static void aCellLiesInItsColumnAndRow() {
        // The line from (2, 1) to (4, 1) goes over (3, 1), the one from (3, 0) to (3, 2) as well.
        new Run().stations(2, 14, 16, 3, 27).call("setHeight", 15, 1)
                .due(15, "blocker", 0, 1).due(15, "blocker", 2, 3);
        // The last cell of a row and the first one of the next are no neighbours: all of the row lies between them.
        new Run().stations(2, 11, 12).call("setHeight", 6, 1).due(6, "blocker", 0, 1);
    }
}
