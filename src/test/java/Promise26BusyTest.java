/** Promise 26: busy. */
public final class Promise26BusyTest extends PromiseTests {

    private static final String NO_STATION = "Throws `IndexOutOfBoundsException` if the station does not exist";
    private static final String OUT_OF_RANGE = "Throws `IllegalArgumentException` if turn is not 0 to 71";
    private static final String RETURNS = "Returns the number of the message; NONE if the station is not busy.";

    public static void main(String[] args) {
        runAll(Promise26BusyTest.class);
    }

    @Sentence("- `station`: number of the station")
    static void theFirstAndTheLastStation() {
        Run.eightStations().call("send", 0, 7, 1, 6).due(0, "busy", 0, 6).due(0, "busy", 7, 6).due(NONE, "busy", 1, 6)
                .due(NONE, "busy", 6, 6);
    }

    @Sentence(NO_STATION)
    static void theStationBeforeTheFirst() {
        Run.some().refused(INDEX, "busy", -1, 0).refused(INDEX, "busy", MIN, 0);
    }

    @Sentence(NO_STATION)
    static void theStationBehindTheLast() {
        new Run().refused(INDEX, "busy", 0, 0);
        Run.some().refused(INDEX, "busy", 3, 0).refused(INDEX, "busy", MAX, 0);
        Run.eightStations().refused(INDEX, "busy", 8, 0);
    }

    @Sentence("- `turn`: 0 to 71")
    static void theFirstAndTheLastTurn() {
        Run.eightStations().due(NONE, "busy", 0, 0).due(NONE, "busy", 0, 71).call("send", 0, 1, 1, 71)
                .due(NONE, "busy", 0, 0).due(NONE, "busy", 0, 70).due(0, "busy", 0, 71).due(0, "busy", 1, 71)
                .due(NONE, "busy", 1, 0).due(NONE, "busy", 2, 71).due(NONE, "busy", 2, 0);
    }

    @Sentence(OUT_OF_RANGE)
    static void aTurnTooSmall() {
        Run.some().refused(ARGUMENT, "busy", 0, -1).refused(ARGUMENT, "busy", 2, MIN);
    }

    @Sentence(OUT_OF_RANGE)
    static void aTurnTooLarge() {
        Run.some().refused(ARGUMENT, "busy", 0, 72).refused(ARGUMENT, "busy", 2, MAX);
    }

    @Sentence("If several exceptions apply, the one that is named first in the throws clause is thrown.")
    static void neitherStationNorTurnIsRight() {
        new Run().refused(INDEX, "busy", 0, 72);
        Run.some().refused(INDEX, "busy", 3, 72).refused(INDEX, "busy", -1, -1).refused(INDEX, "busy", MAX, MIN);
    }

    @Sentence({"Returns which message makes a station busy in a turn.", RETURNS})
    static void theTurnBeforeTheFirstAndTheTurnBehindTheLast() {
        Run.some().dueBusy(0, 5, NONE, 0, 0, 0, NONE).dueBusy(1, 5, NONE, 0, 0, 0, NONE).dueBusy(2, 5, NONE, NONE, NONE)
                .dueBusy(0, 19, NONE, 1, NONE).dueBusy(2, 19, NONE, 1, NONE).dueBusy(1, 19, NONE, NONE)
                .dueBusy(0, 41, NONE, 2, 2, NONE).dueBusy(1, 41, NONE, 2, 2, NONE).dueBusy(2, 41, NONE, NONE)
                .sameAs(Run.some());
    }

    @Sentence({RETURNS, "There are at most 20 messages, numbered from 0 in the order in which they were sent."})
    static void theNumbers0To19() {
        Run x = Run.eightStations().twentyMessages();
        for (int i = 0; i < 20; i++) {
            x.due(i, "busy", 0, 6 + i).due(i, "busy", 1, 6 + i).due(NONE, "busy", 2, 6 + i);
        }
        x.due(NONE, "busy", 0, 5).due(NONE, "busy", 0, 26);
    }

    @Sentence({RETURNS,
        "In each turn a station is busy if a message that has been sent uses it, as a sender or as a receiver."})
    static void everyTurnOfTheDay() {
        Run x = Run.eightStations();
        for (int i = 0; i < 11; i++) {
            x.call("send", i % 2, 1 - i % 2, 6, 0);
        }
        for (int turn = 0; turn < 72; turn++) {
            x.due(turn < 6 ? NONE : turn / 6 - 1, "busy", 0, turn).due(turn < 6 ? NONE : turn / 6 - 1, "busy", 1, turn)
                    .due(NONE, "busy", 2, turn).due(NONE, "busy", 7, turn);
        }
    }

    @Sentence("Returns which message makes a station busy in a turn.")
    static void oneThatCouldNotBeSentMakesNothingBusy() {
        Run.eightStations().due(NONE, "send", 0, 1, 6, 67).dueBusy(0, 66, NONE, NONE, NONE, NONE, NONE, NONE);
    }
}
