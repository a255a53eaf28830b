/** Promise 11: lend. */
public final class Promise11LendTest extends PromiseTests {

    private static final String NO_STATION = "Throws `IndexOutOfBoundsException` if one of the stations does not exist";
    private static final String NO_MIRROR =
            "Throws `IllegalStateException` if from has just one mirror, or to has two";

    public static void main(String[] args) {
        runAll(Promise11LendTest.class);
    }

    /** Stations 0 and 2 have two mirrors, 1 and 3 have one. */
    private static Run four() {
        return new Run().call("addStation", 1, 0, 2).call("addStation", 2, 0, 1).call("addStation", 3, 0, 2)
                .call("addStation", 4, 0, 1);
    }

    @Sentence({"Lends a mirror from a station with two mirrors to a station with one mirror.",
        "- `from`: the station that gives it", "- `to`: the station that gets it"})
    static void oneGivesAndOneGets() {
        four().due(2, "lend", 0, 3).due(1, "station", 0, 2).due(1, "station", 1, 2).due(2, "station", 2, 2)
                .due(2, "station", 3, 2).due(2, "count", 5);
    }

    @Sentence("Lends a mirror from a station with two mirrors to a station with one mirror.")
    static void aMirrorCanBeLentOnAndBack() {
        four().due(2, "lend", 0, 3).due(2, "lend", 3, 1).due(2, "lend", 1, 0).sameAs(four());
        four().call("lend", 2, 1).refused(STATE, "lend", 2, 3).due(2, "lend", 1, 2);
    }

    @Sentence("- `from`: the station that gives it")
    static void theFirstAndTheLastStationGiveAndGet() {
        Run x = new Run().stations(2, 0).stations(1, 1, 2, 3, 4, 5, 6, 7);
        x.due(1, "lend", 0, 7).due(1, "station", 0, 2).due(2, "station", 7, 2).due(1, "lend", 7, 0)
                .due(2, "station", 0, 2).due(1, "station", 7, 2);
    }

    @Sentence("Returns the number of stations with two mirrors afterwards.")
    static void returnsOneToSeven() {
        new Run().stations(2, 0).stations(1, 1).due(1, "lend", 0, 1);
        new Run().stations(2, 0, 1, 2).stations(1, 3).due(3, "lend", 1, 3);
        new Run().stations(2, 0, 1, 2, 3, 4, 5, 6).stations(1, 7).due(7, "lend", 6, 7);
    }

    @Sentence(NO_STATION)
    static void theStationBeforeTheFirst() {
        four().refused(INDEX, "lend", -1, 1).refused(INDEX, "lend", 0, -1).refused(INDEX, "lend", MIN, 1)
                .refused(INDEX, "lend", 0, MIN).refused(INDEX, "lend", -1, -1);
    }

    @Sentence(NO_STATION)
    static void theStationBehindTheLast() {
        four().refused(INDEX, "lend", 4, 1).refused(INDEX, "lend", 0, 4).refused(INDEX, "lend", MAX, 1)
                .refused(INDEX, "lend", 0, MAX).refused(INDEX, "lend", 4, 4);
        new Run().refused(INDEX, "lend", 0, 0).refused(INDEX, "lend", 0, 1);
        Run.eightStations().refused(INDEX, "lend", 0, 8).refused(INDEX, "lend", 8, 0);
    }

    @Sentence(NO_MIRROR)
    static void fromHasJustOneMirror() {
        four().refused(STATE, "lend", 1, 3).refused(STATE, "lend", 3, 1);
    }

    @Sentence(NO_MIRROR)
    static void toHasTwoMirrors() {
        four().refused(STATE, "lend", 0, 2).refused(STATE, "lend", 2, 0);
    }

    @Sentence(NO_MIRROR)
    static void fromHasJustOneAndToHasTwo() {
        four().refused(STATE, "lend", 1, 0).refused(STATE, "lend", 3, 2);
    }

    @Sentence(NO_MIRROR)
    static void aStationLendsNothingToItself() {
        four().refused(STATE, "lend", 0, 0).refused(STATE, "lend", 1, 1);
    }

    @Sentence("If several exceptions apply, the one that is named first in the throws clause is thrown.")
    static void noStationAndNoMirror() {
        // 1 has just one mirror, and 0 has two, so that the other one is wrong in any case.
        four().refused(INDEX, "lend", 1, 4).refused(INDEX, "lend", 1, -1).refused(INDEX, "lend", 4, 0)
                .refused(INDEX, "lend", -1, 0);
    }

    @Sentence("the first one has two mirrors")
    static void whatCanBeSignalledGoesWithIt() {
        new Run().stations(2, 60).stations(1, 62).due(0, "link", 0, 1, 13).due(5, "link", 1, 0, 11)
                .call("lend", 0, 1).due(5, "link", 0, 1, 13).due(0, "link", 1, 0, 11);
    }

    @Sentence("Messages that have been sent keep their routes, whatever is changed afterwards.")
    static void messagesStay() {
        new Run().stations(2, 60).stations(1, 62).due(61, "send", 0, 1, 1, 60).call("lend", 0, 1)
                .due(NONE, "arrival", 0, 1, 1, 61).dueMessage(0, 0, 1, 1, 60, 61, 1).dueBusy(0, 59, NONE, 0, NONE);
    }
}
