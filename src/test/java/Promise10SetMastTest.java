/** Promise 10: setMast. */
public final class Promise10SetMastTest extends PromiseTests {

    private static final String NO_STATION = "Throws `IndexOutOfBoundsException` if the station does not exist";
    private static final String OUT_OF_RANGE = "Throws `IllegalArgumentException` if mast is not 0 to 50";

    public static void main(String[] args) {
        runAll(Promise10SetMastTest.class);
    }

    @Sentence("- `station`: number of the station")
    static void theFirstAndTheLastStation() {
        Run.eightStations().due(0, "setMast", 0, 4).due(0, "setMast", 7, 5).due(4, "station", 0, 1)
                .due(0, "station", 1, 1).due(0, "station", 6, 1).due(5, "station", 7, 1);
    }

    @Sentence(NO_STATION)
    static void theStationBeforeTheFirst() {
        Run.some().refused(INDEX, "setMast", -1, 1).refused(INDEX, "setMast", MIN, 1);
    }

    @Sentence(NO_STATION)
    static void theStationBehindTheLast() {
        new Run().refused(INDEX, "setMast", 0, 1).stations(1, 0).refused(INDEX, "setMast", 1, 1);
        Run.some().refused(INDEX, "setMast", 3, 1).refused(INDEX, "setMast", MAX, 1);
        Run.eightStations().refused(INDEX, "setMast", 8, 1);
    }

    @Sentence("- `mast`: 0 to 50")
    static void theLeastAndTheGreatestMast() {
        Run.some().due(10, "setMast", 0, 50).due(50, "station", 0, 1).due(50, "setMast", 0, 0).due(0, "station", 0, 1);
    }

    @Sentence(OUT_OF_RANGE)
    static void aMastTooSmall() {
        Run.some().refused(ARGUMENT, "setMast", 0, -1).refused(ARGUMENT, "setMast", 2, MIN);
    }

    @Sentence(OUT_OF_RANGE)
    static void aMastTooLarge() {
        Run.some().refused(ARGUMENT, "setMast", 0, 51).refused(ARGUMENT, "setMast", 2, MAX);
    }

    @Sentence("If several exceptions apply, the one that is named first in the throws clause is thrown.")
    static void neitherStationNorMastIsRight() {
        new Run().refused(INDEX, "setMast", 0, 51);
        Run.some().refused(INDEX, "setMast", 3, 51).refused(INDEX, "setMast", -1, -1)
                .refused(INDEX, "setMast", MAX, MIN);
    }

    @Sentence({"Changes the mast of a station.", "The eye of a station is the height of its cell plus its mast."})
    static void theEyeGoesWithIt() {
        new Run().call("setHeight", 5, 100).call("addStation", 5, 9, 2).call("addStation", 7, 3, 1)
                .due(9, "setMast", 0, 50).dueStation(0, 5, 50, 2, 150).dueStation(1, 7, 3, 1, 3);
    }

    @Sentence("Changes the mast of a station.")
    static void whatItSeesGoesWithIt() {
        new Run().stations(2, 60, 62).call("setHeight", 61, 10).due(61, "blocker", 0, 1).call("setMast", 0, 20)
                .due(NONE, "blocker", 0, 1).due(7, "arrival", 0, 1, 1, 0).call("setMast", 0, 19)
                .due(61, "blocker", 0, 1)
                .due(NONE, "arrival", 0, 1, 1, 0);
    }

    @Sentence("Returns the previous mast.")
    static void returnsWhatWasThereBefore() {
        Run.some().due(10, "setMast", 0, 20).due(20, "setMast", 0, 20).refused(ARGUMENT, "setMast", 0, 51)
                .due(20, "setMast", 0, 0).due(0, "setMast", 0, 1).due(50, "setMast", 1, 1);
    }

    @Sentence("Messages that have been sent keep their routes, whatever is changed afterwards.")
    static void messagesStay() {
        new Run().stations(2, 60, 62).call("setMast", 0, 50).call("setHeight", 61, 20).due(8, "send", 0, 1, 2, 0)
                .call("setMast", 0, 0).due(NONE, "arrival", 0, 1, 2, 0).dueMessage(0, 0, 1, 2, 0, 8, 1)
                .dueHop(0, 0, 0, 1, 6).dueBusy(0, 5, NONE, 0, 0, NONE);
    }
}
