/** Promise 12: addCloud. */
public final class Promise12AddCloudTest extends PromiseTests {

    private static final String NO_CELL = "Throws `IndexOutOfBoundsException` if one of the cells does not exist";
    private static final String OUT_OF_RANGE = "Throws `IllegalArgumentException` if from or to is out of range";
    private static final String NO_ROOM = "Throws `IllegalStateException` if there are 6 clouds";
    private static final String COVERS =
            "a cloud covers a rectangle of cells from an hour to another or the same hour (both included)";
    private static final String SEVERAL =
            "If several exceptions apply, the one that is named first in the throws clause is thrown.";

    public static void main(String[] args) {
        runAll(Promise12AddCloudTest.class);
    }

    /** Which cells a cloud at noon covers, told by a station that stands on each of them in turn. */
    private static void dueCovered(int first, int last, int west, int east, int north, int south) {
        for (int cell = 0; cell < 144; cell++) {
            boolean inside = cell % 12 >= west && cell % 12 <= east && cell / 12 >= north && cell / 12 <= south;
            new Run().stations(2, cell).call("addCloud", first, last, 12, 12)
                    .due(inside ? ALL_SUN - hour(12) : ALL_SUN, "station", 0, 4);
        }
    }

    @Sentence({"Adds a cloud.", COVERS})
    static void itCoversItsRectangleAndNoMore() {
        dueCovered(38, 64, 2, 4, 3, 5);
    }

    @Sentence("- `last`: the cell at the opposite corner, also the same")
    static void itCoversASingleCell() {
        dueCovered(70, 70, 10, 10, 5, 5);
        dueCovered(0, 0, 0, 0, 0, 0);
        dueCovered(143, 143, 11, 11, 11, 11);
    }

    @Sentence({COVERS, "- `first`: a cell at a corner of its rectangle"})
    static void itCoversTheWholeTerrain() {
        dueCovered(0, 143, 0, 11, 0, 11);
    }

    @Sentence(COVERS)
    static void itCoversARowOrAColumn() {
        dueCovered(24, 35, 0, 11, 2, 2);
        dueCovered(11, 143, 11, 11, 0, 11);
        // From the end of a row to the beginning of the next: two rows, as those are corners of both.
        dueCovered(11, 12, 0, 11, 0, 1);
    }

    @Sentence({"- `first`: a cell at a corner of its rectangle",
        "- `last`: the cell at the opposite corner, also the same"})
    static void anyTwoOppositeCorners() {
        dueCovered(64, 38, 2, 4, 3, 5);
        dueCovered(40, 62, 2, 4, 3, 5);
        dueCovered(62, 40, 2, 4, 3, 5);
        dueCovered(143, 0, 0, 11, 0, 11);
    }

    @Sentence("- `first`: a cell at a corner of its rectangle")
    static void theFirstAndTheLastCell() {
        new Run().due(0, "addCloud", 0, 143, 6, 17).due(1, "addCloud", 143, 0, 6, 17).due(2, "addCloud", 0, 0, 6, 17)
                .due(3, "addCloud", 143, 143, 6, 17);
    }

    @Sentence(NO_CELL)
    static void theCellBeforeTheFirst() {
        Run.some().refused(INDEX, "addCloud", -1, 5, 7, 8).refused(INDEX, "addCloud", 5, -1, 7, 8)
                .refused(INDEX, "addCloud", MIN, 5, 7, 8).refused(INDEX, "addCloud", 5, MIN, 7, 8)
                .refused(INDEX, "addCloud", -1, -1, 7, 8);
    }

    @Sentence(NO_CELL)
    static void theCellBehindTheLast() {
        Run.some().refused(INDEX, "addCloud", 144, 5, 7, 8).refused(INDEX, "addCloud", 5, 144, 7, 8)
                .refused(INDEX, "addCloud", MAX, 5, 7, 8).refused(INDEX, "addCloud", 5, MAX, 7, 8)
                .refused(INDEX, "addCloud", 144, 144, 7, 8);
    }

    @Sentence({COVERS, "The day has the hours 6 to 17."})
    static void bothHoursAreIncluded() {
        new Run().stations(2, 5).call("addCloud", 5, 5, 9, 11)
                .due(ALL_SUN - hour(9) - hour(10) - hour(11), "station", 0, 4);
        new Run().stations(2, 5).call("addCloud", 5, 5, 9, 10).due(ALL_SUN - hour(9) - hour(10), "station", 0, 4);
        new Run().stations(2, 5).call("addCloud", 5, 5, 6, 7).due(ALL_SUN - hour(7), "station", 0, 4);
        new Run().stations(2, 5).call("addCloud", 5, 5, 16, 17).due(ALL_SUN - hour(16) - hour(17), "station", 0, 4);
        new Run().stations(2, 5).call("addCloud", 5, 5, 6, 17).due(0, "station", 0, 4);
    }

    @Sentence(COVERS)
    static void theSameHour() {
        for (int h = 6; h <= 17; h++) {
            new Run().stations(2, 5).due(0, "addCloud", 5, 5, h, h).due(ALL_SUN & ~hour(h), "station", 0, 4);
        }
    }

    @Sentence("- `from`: its first hour, 6 to 17")
    static void theFirstHourFrom6To17() {
        Run.some().due(2, "addCloud", 5, 5, 6, 17).due(3, "addCloud", 5, 5, 17, 17)
                .refused(ARGUMENT, "addCloud", 5, 5, 5, 17).refused(ARGUMENT, "addCloud", 5, 5, 18, 17)
                .refused(ARGUMENT, "addCloud", 5, 5, 18, 18);
    }

    @Sentence({"- `to`: its last hour, from to 17", OUT_OF_RANGE})
    static void theLastHourFromTheFirstOneTo17() {
        Run.some().due(2, "addCloud", 5, 5, 9, 9).refused(ARGUMENT, "addCloud", 5, 5, 9, 8)
                .refused(ARGUMENT, "addCloud", 5, 5, 17, 16).due(3, "addCloud", 5, 5, 9, 17)
                .refused(ARGUMENT, "addCloud", 5, 5, 9, 18).due(4, "addCloud", 5, 5, 6, 6)
                .refused(ARGUMENT, "addCloud", 5, 5, 6, 5);
    }

    @Sentence(OUT_OF_RANGE)
    static void hoursFarOutOfRange() {
        Run.some().refused(ARGUMENT, "addCloud", 5, 5, MIN, 17).refused(ARGUMENT, "addCloud", 5, 5, MAX, MAX)
                .refused(ARGUMENT, "addCloud", 5, 5, 6, MAX).refused(ARGUMENT, "addCloud", 5, 5, 6, MIN)
                .refused(ARGUMENT, "addCloud", 5, 5, MIN, MIN).refused(ARGUMENT, "addCloud", 5, 5, 0, 0);
    }

    @Sentence({"Returns the number of the cloud.", "There are at most 6 clouds, numbered from 0"})
    static void numbersFrom0To5() {
        Run x = new Run();
        for (int i = 0; i < 6; i++) {
            x.due(i, "addCloud", i, i + 20, 6 + i, 12 + i).due(i + 1, "count", 1);
        }
    }

    @Sentence({NO_ROOM, "There are at most 6 clouds, numbered from 0"})
    static void theSixthHasRoomAndTheSeventhHasNot() {
        // Each cloud has a station and an hour of its own, so that one which is lost or replaced is seen.
        Run x = new Run().stations(2, 0, 1, 2, 3, 4, 5, 6);
        for (int i = 0; i < 6; i++) {
            x.due(i, "addCloud", i, i, 7 + i, 7 + i);
        }
        x.refused(STATE, "addCloud", 6, 6, 6, 17).refused(STATE, "addCloud", 0, 143, 6, 17).due(6, "count", 1);
        for (int i = 0; i < 6; i++) {
            x.due(ALL_SUN - hour(7 + i), "station", i, 4);
        }
        x.due(ALL_SUN, "station", 6, 4);
        Run.full().refused(STATE, "addCloud", 0, 0, 6, 6);
    }

    @Sentence(NO_ROOM)
    static void thereIsRoomAgainWhenTheyWereCleared() {
        new Run().sixClouds(0, 0, 6, 6).refused(STATE, "addCloud", 0, 0, 6, 6).due(6, "clearClouds")
                .due(0, "addCloud", 0, 0, 6, 6);
    }

    @Sentence(SEVERAL)
    static void noCellAndWrongHours() {
        Run.some().refused(INDEX, "addCloud", 144, 5, 5, 17).refused(INDEX, "addCloud", 5, -1, 8, 7)
                .refused(INDEX, "addCloud", -1, 144, 6, 18);
        Run.full().refused(INDEX, "addCloud", 144, 5, 6, 17).refused(INDEX, "addCloud", 5, -1, 5, 18);
    }

    @Sentence(SEVERAL)
    static void wrongHoursAndNoRoom() {
        Run.full().refused(ARGUMENT, "addCloud", 5, 5, 5, 17).refused(ARGUMENT, "addCloud", 5, 5, 6, 18)
                .refused(ARGUMENT, "addCloud", 5, 5, 8, 7);
    }

    @Sentence("The stations on these cells have no sun in these hours; they can receive.")
    static void aCoveredStationCannotSignalButReceive() {
        new Run().stations(2, 5, 6).call("addCloud", 5, 5, 9, 10).due(3, "link", 0, 1, 9).due(3, "link", 0, 1, 10)
                .due(0, "link", 0, 1, 8).due(0, "link", 0, 1, 11).due(0, "link", 1, 0, 9).due(0, "link", 1, 0, 10)
                .due(19, "arrival", 1, 0, 1, 18).due(31, "arrival", 0, 1, 1, 18);
    }

    @Sentence("The stations on these cells have no sun in these hours; they can receive.")
    static void aStationThatComesLaterIsCoveredToo() {
        new Run().call("addCloud", 4, 6, 7, 7).stations(2, 5).due(ALL_SUN - hour(7), "station", 0, 4);
    }

    @Sentence("There are at most 6 clouds, numbered from 0")
    static void severalCloudsOverOneStation() {
        new Run().stations(2, 5, 9).call("addCloud", 5, 5, 8, 10).call("addCloud", 0, 7, 10, 12)
                .call("addCloud", 5, 17, 15, 15)
                .due(ALL_SUN - hour(8) - hour(9) - hour(10) - hour(11) - hour(12) - hour(15), "station", 0, 4)
                .due(ALL_SUN, "station", 1, 4);
    }

    @Sentence("Messages that have been sent keep their routes, whatever is changed afterwards.")
    static void messagesStay() {
        new Run().stations(2, 5, 6).call("send", 0, 1, 3, 6).call("addCloud", 0, 143, 6, 17)
                .dueMessage(0, 0, 1, 3, 6, 9, 1).dueHop(0, 0, 0, 1, 6).dueBusy(1, 5, NONE, 0, 0, 0, NONE)
                .due(NONE, "arrival", 0, 1, 1, 0);
    }
}
