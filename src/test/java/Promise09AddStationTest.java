/** Promise 9: addStation. */
public final class Promise09AddStationTest extends PromiseTests {

    private static final String NO_CELL = "Throws `IndexOutOfBoundsException` if the cell does not exist";
    private static final String OUT_OF_RANGE = "Throws `IllegalArgumentException` if mast or mirrors is out of range";
    private static final String NO_ROOM =
            "Throws `IllegalStateException` if there is a station on the cell, or there are 8 stations";
    private static final String SEVERAL =
            "If several exceptions apply, the one that is named first in the throws clause is thrown.";

    public static void main(String[] args) {
        runAll(Promise09AddStationTest.class);
    }

    @Sentence("- `cell`: its cell, 0 to 143")
    static void theFirstAndTheLastCell() {
        new Run().due(0, "addStation", 0, 0, 1).due(1, "addStation", 143, 0, 1).due(0, "station", 0, 0)
                .due(143, "station", 1, 0);
    }

    @Sentence(NO_CELL)
    static void theCellBeforeTheFirst() {
        Run.some().refused(INDEX, "addStation", -1, 0, 1).refused(INDEX, "addStation", MIN, 0, 1);
    }

    @Sentence(NO_CELL)
    static void theCellBehindTheLast() {
        Run.some().refused(INDEX, "addStation", 144, 0, 1).refused(INDEX, "addStation", MAX, 0, 1);
    }

    @Sentence("- `mast`: 0 to 50")
    static void theLeastAndTheGreatestMast() {
        new Run().due(0, "addStation", 7, 0, 1).due(1, "addStation", 8, 50, 1).due(0, "station", 0, 1)
                .due(50, "station", 1, 1);
    }

    @Sentence(OUT_OF_RANGE)
    static void aMastTooSmall() {
        Run.some().refused(ARGUMENT, "addStation", 7, -1, 1).refused(ARGUMENT, "addStation", 7, MIN, 1);
    }

    @Sentence(OUT_OF_RANGE)
    static void aMastTooLarge() {
        Run.some().refused(ARGUMENT, "addStation", 7, 51, 1).refused(ARGUMENT, "addStation", 7, MAX, 1);
    }

    @Sentence({"- `mirrors`: 1 or 2", "has a mast of 0 to 50 metres, and 1 or 2 mirrors"})
    static void oneMirrorOrTwo() {
        new Run().due(0, "addStation", 7, 0, 1).due(1, "addStation", 8, 0, 2).due(1, "station", 0, 2)
                .due(2, "station", 1, 2).due(1, "count", 5);
    }

    @Sentence(OUT_OF_RANGE)
    static void tooFewMirrors() {
        Run.some().refused(ARGUMENT, "addStation", 7, 0, 0).refused(ARGUMENT, "addStation", 7, 0, -1)
                .refused(ARGUMENT, "addStation", 7, 0, MIN);
    }

    @Sentence(OUT_OF_RANGE)
    static void tooManyMirrors() {
        Run.some().refused(ARGUMENT, "addStation", 7, 0, 3).refused(ARGUMENT, "addStation", 7, 0, MAX);
    }

    @Sentence({"Adds a station.", "Returns the number of the station.",
        "There are at most 8 stations, numbered from 0"})
    static void numbersFrom0To7() {
        Run x = new Run();
        for (int i = 0; i < 8; i++) {
            x.due(i, "addStation", 100 - 3 * i, 6 * i, 1 + i % 2).due(i + 1, "count", 0);
        }
        for (int i = 0; i < 8; i++) {
            x.dueStation(i, 100 - 3 * i, 6 * i, 1 + i % 2, 6 * i, ALL_SUN, 0);
        }
    }

    @Sentence({NO_ROOM, "There are at most 8 stations, numbered from 0"})
    static void theEighthHasRoomAndTheNinthHasNot() {
        new Run().stations(1, 0, 1, 2, 3, 4, 5, 6).due(7, "addStation", 7, 0, 1).refused(STATE, "addStation", 8, 0, 1)
                .refused(STATE, "addStation", 143, 50, 2).due(8, "count", 0);
        Run.full().refused(STATE, "addStation", 1, 0, 1);
    }

    @Sentence({NO_ROOM, "each is on a cell of its own"})
    static void aCellThatIsTaken() {
        Run.some().refused(STATE, "addStation", 0, 0, 1).refused(STATE, "addStation", 0, 10, 2)
                .refused(STATE, "addStation", 60, 0, 1).due(3, "addStation", 61, 0, 1)
                .refused(STATE, "addStation", 61, 0, 1);
    }

    @Sentence(NO_ROOM)
    static void theCellsOfAllEightAreTaken() {
        Run x = Run.eightStations();
        int[] cells = {0, 11, 132, 143, 65, 66, 77, 78};
        for (int cell : cells) {
            x.refused(STATE, "addStation", cell, 0, 1);
        }
        for (int cell : cells) {
            new Run().stations(1, cell).refused(STATE, "addStation", cell, 0, 2);
        }
    }

    @Sentence(SEVERAL)
    static void noCellAndAWrongMastOrMirrors() {
        Run.some().refused(INDEX, "addStation", 144, 51, 1).refused(INDEX, "addStation", -1, 0, 0)
                .refused(INDEX, "addStation", 144, -1, 3).refused(INDEX, "addStation", MAX, MAX, MAX);
        Run.eightStations().refused(INDEX, "addStation", 144, 0, 1).refused(INDEX, "addStation", -1, 51, 3);
    }

    @Sentence(SEVERAL)
    static void aWrongMastOrMirrorsAndNoRoom() {
        Run.some().refused(ARGUMENT, "addStation", 0, 51, 1).refused(ARGUMENT, "addStation", 0, -1, 1)
                .refused(ARGUMENT, "addStation", 0, 0, 0).refused(ARGUMENT, "addStation", 0, 0, 3);
        Run.eightStations().refused(ARGUMENT, "addStation", 1, 51, 1).refused(ARGUMENT, "addStation", 1, 0, 3)
                .refused(ARGUMENT, "addStation", 0, -1, 0);
    }

    @Sentence({"Adds a station.", "The eye of a station is the height of its cell plus its mast."})
    static void itStandsOnTheHeightOfItsCell() {
        new Run().call("setHeight", 143, 500).due(0, "addStation", 143, 50, 2)
                .dueStation(0, 143, 50, 2, 550, ALL_SUN, 0)
                .due(500, "count", 4);
    }

    @Sentence("Messages that have been sent keep their routes, whatever is changed afterwards.")
    static void messagesStayWithTheirStations() {
        Run.some().due(3, "addStation", 5, 50, 2).dueMessage(0, 0, 1, 3, 6, 9, 1).dueHop(0, 0, 0, 1, 6)
                .due(0, "station", 3, 5).due(12, "count", 7);
    }
}
