/** Promise 21: mastFor. */
public final class Promise21MastForTest extends PromiseTests {

    private static final String NO_STATION = "Throws `IndexOutOfBoundsException` if one of the stations does not exist";
    private static final String RETURNS =
            "Returns the least mast from 0 to 50; NONE if it is blocked with all of them.";
    private static final String FINDS =
            "Finds the least mast of a station with which its line of sight to another one is not blocked.";

    public static void main(String[] args) {
        runAll(Promise21MastForTest.class);
    }

    @Sentence({"- `from`: the station whose mast would be changed", "- `to`: another station"})
    static void theFirstAndTheLastStation() {
        Run.eightStations().due(0, "mastFor", 0, 7).due(0, "mastFor", 7, 0).call("setHeight", 13, 3)
                .due(4, "mastFor", 0, 7).due(18, "mastFor", 7, 0);
    }

    @Sentence(NO_STATION)
    static void theStationBeforeTheFirst() {
        Run.some().refused(INDEX, "mastFor", -1, 0).refused(INDEX, "mastFor", 0, -1).refused(INDEX, "mastFor", MIN, 0)
                .refused(INDEX, "mastFor", 0, MIN);
    }

    @Sentence(NO_STATION)
    static void theStationBehindTheLast() {
        new Run().refused(INDEX, "mastFor", 0, 1);
        Run.some().refused(INDEX, "mastFor", 3, 0).refused(INDEX, "mastFor", 0, 3).refused(INDEX, "mastFor", MAX, 0)
                .refused(INDEX, "mastFor", 0, MAX);
        Run.eightStations().refused(INDEX, "mastFor", 8, 0).refused(INDEX, "mastFor", 0, 8);
    }

    @Sentence("Throws `IllegalArgumentException` if both are the same")
    static void bothAreTheSame() {
        Run.some().refused(ARGUMENT, "mastFor", 0, 0).refused(ARGUMENT, "mastFor", 2, 2);
    }

    @Sentence("If several exceptions apply, the one that is named first in the throws clause is thrown.")
    static void theSameStationThatDoesNotExist() {
        new Run().refused(INDEX, "mastFor", 0, 0);
        Run.some().refused(INDEX, "mastFor", 3, 3).refused(INDEX, "mastFor", -1, -1);
    }

    @Sentence(RETURNS)
    static void noMastIsNeeded() {
        new Run().call("addStation", 60, 33, 1).call("addStation", 62, 0, 1).due(0, "mastFor", 0, 1)
                .due(0, "mastFor", 1, 0);
        new Run().call("addStation", 60, 0, 1).call("addStation", 61, 0, 1).call("setHeight", 61, 500)
                .due(0, "mastFor", 0, 1)
                .due(0, "mastFor", 1, 0);
        // The cell between them is just as high as the line without a mast, and a metre higher.
        new Run().call("addStation", 60, 0, 1).call("addStation", 62, 20, 1).call("setHeight", 61, 10)
                .due(0, "mastFor", 0, 1)
                .call("setHeight", 61, 11).due(2, "mastFor", 0, 1);
    }

    @Sentence(RETURNS)
    static void theGreatestMastIsNeededOrNotEnough() {
        // Over a cell half way the mast must be twice as high.
        Run x = new Run().stations(1, 60, 62).call("setHeight", 61, 1).due(2, "mastFor", 0, 1);
        x.call("setHeight", 61, 24).due(48, "mastFor", 0, 1).call("setHeight", 61, 25).due(50, "mastFor", 0, 1)
                .call("setHeight", 61, 26).due(NONE, "mastFor", 0, 1).call("setHeight", 61, 500)
                .due(NONE, "mastFor", 0, 1);
        // Two thirds of 50 are 33 1/3; with 51 it would be enough for 34.
        new Run().stations(1, 60, 63).call("setHeight", 61, 34).due(NONE, "mastFor", 0, 1).call("setHeight", 61, 33)
                .due(50, "mastFor", 0, 1);
    }

    @Sentence(FINDS)
    static void theLeastOneIsRoundedUp() {
        // Two thirds of the mast must be 5 at least: 8 is enough, 7 is not.
        new Run().stations(1, 60, 63).call("setHeight", 61, 5).due(8, "mastFor", 0, 1).due(15, "mastFor", 1, 0);
        new Run().stations(1, 60, 71).call("setHeight", 61, 1).due(2, "mastFor", 0, 1).due(11, "mastFor", 1, 0);
    }

    @Sentence(FINDS)
    static void theMastThatItHasDoesNotMatter() {
        Run x = new Run().call("addStation", 60, 0, 1).call("addStation", 62, 10, 1).call("setHeight", 61, 20);
        x.due(30, "mastFor", 0, 1).call("setMast", 0, 50).due(30, "mastFor", 0, 1).call("setMast", 0, 30)
                .due(30, "mastFor", 0, 1).due(NONE, "blocker", 0, 1).call("setMast", 0, 29).due(30, "mastFor", 0, 1)
                .due(61, "blocker", 0, 1);
    }

    @Sentence(FINDS)
    static void theOtherMastAndBothHeightsMatter() {
        Run x = new Run().call("addStation", 60, 0, 1).call("addStation", 62, 33, 1).call("setHeight", 61, 25);
        x.due(17, "mastFor", 0, 1).call("setHeight", 60, 10).due(7, "mastFor", 0, 1).call("setHeight", 62, 7)
                .due(0, "mastFor", 0, 1).call("setHeight", 62, 6).due(1, "mastFor", 0, 1).due(34, "mastFor", 1, 0)
                .call("setHeight", 61, 33).due(50, "mastFor", 1, 0).call("setHeight", 61, 34)
                .due(NONE, "mastFor", 1, 0);
    }

    @Sentence(FINDS)
    static void itsOwnLineNotTheWayBack() {
        new Run().stations(1, 0, 14).call("setHeight", 13, 10).due(20, "mastFor", 0, 1).due(0, "mastFor", 1, 0);
        new Run().stations(1, 0, 14).call("setHeight", 1, 10).due(0, "mastFor", 0, 1).due(20, "mastFor", 1, 0);
    }

    @Sentence("- `from`: the station whose mast would be changed")
    static void noMastIsChanged() {
        Run x = Run.some().call("mastFor", 1, 2).call("mastFor", 2, 1).call("mastFor", 0, 1);
        x.due(10, "station", 0, 1).due(50, "station", 1, 1).due(10, "station", 2, 1).sameAs(Run.some());
    }
}
