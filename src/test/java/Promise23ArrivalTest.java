/** Promise 23: arrival. */
public final class Promise23ArrivalTest extends PromiseTests {

    private static final String NO_STATION = "Throws `IndexOutOfBoundsException` if one of the stations does not exist";
    private static final String OUT_OF_RANGE = "Throws `IllegalArgumentException` if length or turn is out of range";
    private static final String RETURNS = "Returns the arrival at to; NONE if there is none.";
    private static final String NOT_SENT = "Returns the arrival of a message that is not sent.";
    private static final String OTHERS =
            "(The arrivals at all other stations are computed in the same way; a station may have none.)";

    public static void main(String[] args) {
        runAll(Promise23ArrivalTest.class);
    }

    private static Run pair() {
        return new Run().stations(2, 0, 11);
    }

    /** Eight stations up a slope that grows flatter, of which each one sees only its neighbours. */
    private static Run slope() {
        Run x = new Run();
        int[] heights = {0, 60, 110, 150, 180, 200, 210, 211};
        for (int i = 0; i < 8; i++) {
            x.call("setHeight", 62 + i, heights[i]).call("addStation", 62 + i, 0, 2);
        }
        return x;
    }

    // ---- the arguments

    @Sentence({"- `from`: the sender", "- `to`: a station, also the sender itself"})
    static void theFirstAndTheLastStation() {
        Run.eightStations().due(7, "arrival", 0, 7, 1, 6).due(7, "arrival", 7, 0, 1, 6);
    }

    @Sentence(NO_STATION)
    static void theStationBeforeTheFirst() {
        Run.some().refused(INDEX, "arrival", -1, 0, 1, 6).refused(INDEX, "arrival", 0, -1, 1, 6)
                .refused(INDEX, "arrival", -1, -1, 1, 6).refused(INDEX, "arrival", MIN, 0, 1, 6)
                .refused(INDEX, "arrival", 0, MIN, 1, 6);
    }

    @Sentence(NO_STATION)
    static void theStationBehindTheLast() {
        new Run().refused(INDEX, "arrival", 0, 0, 1, 6);
        Run.some().refused(INDEX, "arrival", 3, 0, 1, 6).refused(INDEX, "arrival", 0, 3, 1, 6)
                .refused(INDEX, "arrival", 3, 3, 1, 6).refused(INDEX, "arrival", MAX, 0, 1, 6)
                .refused(INDEX, "arrival", 0, MAX, 1, 6);
        Run.eightStations().refused(INDEX, "arrival", 8, 0, 1, 6).refused(INDEX, "arrival", 0, 8, 1, 6);
    }

    @Sentence("- `length`: n, 1 to 6")
    static void theLeastAndTheGreatestLength() {
        pair().due(7, "arrival", 0, 1, 1, 6).due(12, "arrival", 0, 1, 6, 6);
    }

    @Sentence(OUT_OF_RANGE)
    static void aLengthTooSmall() {
        Run.some().refused(ARGUMENT, "arrival", 0, 1, 0, 6).refused(ARGUMENT, "arrival", 0, 0, -1, 6)
                .refused(ARGUMENT, "arrival", 0, 1, MIN, 6);
    }

    @Sentence(OUT_OF_RANGE)
    static void aLengthTooLarge() {
        Run.some().refused(ARGUMENT, "arrival", 0, 1, 7, 6).refused(ARGUMENT, "arrival", 0, 0, 7, 6)
                .refused(ARGUMENT, "arrival", 0, 1, MAX, 6);
    }

    @Sentence("- `turn`: the turn from which on it could be sent, 0 to 71")
    static void theFirstAndTheLastTurn() {
        pair().due(7, "arrival", 0, 1, 1, 0).due(72, "arrival", 0, 1, 1, 71);
    }

    @Sentence(OUT_OF_RANGE)
    static void aTurnTooSmall() {
        Run.some().refused(ARGUMENT, "arrival", 0, 1, 1, -1).refused(ARGUMENT, "arrival", 0, 0, 1, -1)
                .refused(ARGUMENT, "arrival", 0, 1, 1, MIN);
    }

    @Sentence(OUT_OF_RANGE)
    static void aTurnTooLarge() {
        Run.some().refused(ARGUMENT, "arrival", 0, 1, 1, 72).refused(ARGUMENT, "arrival", 0, 0, 1, 72)
                .refused(ARGUMENT, "arrival", 0, 1, 1, MAX);
    }

    @Sentence("If several exceptions apply, the one that is named first in the throws clause is thrown.")
    static void noStationAndAnythingElse() {
        new Run().refused(INDEX, "arrival", 0, 0, 0, 72);
        Run.some().refused(INDEX, "arrival", 3, 0, 0, 6).refused(INDEX, "arrival", 0, 3, 7, 6)
                .refused(INDEX, "arrival", -1, 0, 1, 72).refused(INDEX, "arrival", 0, -1, 1, -1)
                .refused(INDEX, "arrival", MAX, MAX, MAX, MAX);
    }

    @Sentence(OUT_OF_RANGE)
    static void neitherLengthNorTurnIsRight() {
        Run.some().refused(ARGUMENT, "arrival", 0, 1, 0, 72).refused(ARGUMENT, "arrival", 0, 1, 7, -1);
    }

    // ---- the arrivals

    @Sentence({"- `to`: a station, also the sender itself", "the turn given for the sender"})
    static void atTheSenderItself() {
        pair().due(0, "arrival", 0, 0, 6, 0).due(5, "arrival", 0, 0, 1, 5).due(71, "arrival", 1, 1, 6, 71)
                .call("addCloud", 0, 143, 6, 17).due(30, "arrival", 0, 0, 3, 30).call("clearClouds")
                .call("send", 0, 1, 6, 30).due(30, "arrival", 0, 0, 3, 30).due(33, "arrival", 1, 1, 3, 33);
        new Run().stations(1, 5).due(0, "arrival", 0, 0, 1, 0);
    }

    @Sentence({RETURNS, OTHERS})
    static void thereIsNone() {
        pair().due(NONE, "arrival", 0, 1, 2, 71).due(NONE, "arrival", 0, 1, 6, 67).due(72, "arrival", 0, 1, 6, 66);
        pair().call("setHeight", 5, 1).due(NONE, "arrival", 0, 1, 1, 0).due(NONE, "arrival", 1, 0, 1, 0);
        pair().call("addCloud", 0, 0, 6, 17).due(NONE, "arrival", 0, 1, 1, 0).due(7, "arrival", 1, 0, 1, 0);
    }

    @Sentence(OTHERS)
    static void overOneToSevenTransmissions() {
        Run x = slope();
        for (int to = 0; to < 8; to++) {
            x.due(20 + 2 * Math.abs(to - 3), "arrival", 3, to, 2, 20);
            x.due(6 + 6 * to + (to == 0 ? -6 : 0), "arrival", 0, to, 6, to == 0 ? 0 : 6);
        }
        x.due(72, "arrival", 0, 7, 6, 30).due(NONE, "arrival", 0, 7, 6, 31).due(67, "arrival", 0, 6, 6, 31)
                .due(72, "arrival", 7, 0, 6, 30).due(NONE, "arrival", 7, 0, 6, 31);
    }

    @Sentence(OTHERS)
    static void aStationThatHasItWithTheEndOfTheDayPassesNothingOn() {
        slope().due(72, "arrival", 0, 1, 1, 71).due(NONE, "arrival", 0, 2, 1, 71).due(72, "arrival", 0, 2, 1, 70)
                .due(NONE, "arrival", 0, 3, 1, 70);
    }

    @Sentence({"s is not less than the arrival at u, and s is the least such turn", RETURNS})
    static void aroundBusyTurns() {
        Run x = pair().call("send", 0, 1, 2, 8);
        x.due(7, "arrival", 0, 1, 1, 0).due(8, "arrival", 0, 1, 2, 0).due(13, "arrival", 0, 1, 3, 0)
                .due(11, "arrival", 1, 0, 1, 8).due(11, "arrival", 1, 0, 1, 9).due(11, "arrival", 1, 0, 1, 10)
                .due(12, "arrival", 1, 0, 1, 11).due(12, "arrival", 0, 1, 2, 7);
    }

    @Sentence(NOT_SENT)
    static void itSendsAndBooksNothing() {
        pair().due(8, "arrival", 0, 1, 2, 6).due(8, "arrival", 0, 1, 2, 6).due(0, "count", 2).due(0, "count", 7)
                .due(NONE, "busy", 0, 6).sameAs(pair());
        Run.some().call("arrival", 0, 1, 6, 0).call("arrival", 2, 0, 1, 71).sameAs(Run.some());
    }

    @Sentence(NOT_SENT)
    static void itAnswersAlsoWithTwentyMessages() {
        Run.eightStations().twentyMessages().due(27, "arrival", 0, 1, 1, 6).due(8, "arrival", 2, 3, 2, 6)
                .due(NONE, "arrival", 2, 3, 6, 67).due(20, "count", 2);
    }

    @Sentence(NOT_SENT)
    static void itIsWhatSendReturns() {
        Run x = slope();
        for (int i = 0; i < 12; i++) {
            MirrorTelegraph y = x.again();
            int from = i % 8;
            int to = (3 * i + 1) % 8 == from ? (from + 1) % 8 : (3 * i + 1) % 8;
            int length = 1 + i % 6;
            int due = y.arrival(from, to, length, i);
            x.due(due, "send", from, to, length, i);
        }
    }
}
