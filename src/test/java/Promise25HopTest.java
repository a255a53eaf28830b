/** Promise 25: hop. */
public final class Promise25HopTest extends PromiseTests {

    private static final String MISSING =
            "Throws `IndexOutOfBoundsException` if the message or the transmission does not exist";
    private static final String OUT_OF_RANGE = "Throws `IllegalArgumentException` if what is not 0 to 2";
    private static final String WHAT = "0: the station that sends; 1: the station that receives; 2: the first turn";

    public static void main(String[] args) {
        runAll(Promise25HopTest.class);
    }

    /** Message 0 goes over seven transmissions, message 1 over one of the same stations. */
    private static Run slope() {
        Run x = new Run();
        int[] heights = {0, 60, 110, 150, 180, 200, 210, 211};
        for (int i = 0; i < 8; i++) {
            x.call("setHeight", 62 + i, heights[i]).call("addStation", 62 + i, 0, 2);
        }
        return x.call("send", 0, 7, 2, 3).call("send", 7, 6, 1, 6);
    }

    @Sentence("- `message`: number of the message")
    static void theFirstAndTheLastMessage() {
        Run.eightStations().twentyMessages().dueHop(0, 0, 0, 1, 6).dueHop(19, 0, 0, 1, 25);
    }

    @Sentence(MISSING)
    static void theMessageBeforeTheFirst() {
        Run.some().refused(INDEX, "hop", -1, 0, 0).refused(INDEX, "hop", MIN, 0, 0);
    }

    @Sentence(MISSING)
    static void theMessageBehindTheLast() {
        new Run().refused(INDEX, "hop", 0, 0, 0);
        Run.some().refused(INDEX, "hop", 3, 0, 0).refused(INDEX, "hop", MAX, 0, 0);
        Run.full().refused(INDEX, "hop", 20, 0, 0);
        Run.some().call("cancel", 1).refused(INDEX, "hop", 2, 0, 0);
    }

    @Sentence({"- `index`: the index of the transmission in its route, from 0", WHAT})
    static void theFirstAndTheLastTransmission() {
        slope().dueHop(0, 0, 0, 1, 6).dueHop(0, 6, 6, 7, 18).dueHop(1, 0, 7, 6, 6);
    }

    @Sentence({"Returns a part of a transmission of a message.", "Returns that number.", WHAT})
    static void eachTransmissionInItsOrder() {
        Run x = slope();
        for (int i = 0; i < 7; i++) {
            x.dueHop(0, i, i, i + 1, 6 + 2 * i);
        }
    }

    @Sentence(MISSING)
    static void theTransmissionBeforeTheFirst() {
        slope().refused(INDEX, "hop", 0, -1, 0).refused(INDEX, "hop", 1, -1, 0).refused(INDEX, "hop", 0, MIN, 0);
    }

    @Sentence(MISSING)
    static void theTransmissionBehindTheLast() {
        slope().refused(INDEX, "hop", 0, 7, 0).refused(INDEX, "hop", 1, 1, 0).refused(INDEX, "hop", 1, 6, 0)
                .refused(INDEX, "hop", 0, MAX, 0);
        Run.some().refused(INDEX, "hop", 0, 1, 0).refused(INDEX, "hop", 0, 1, 2);
    }

    @Sentence(MISSING)
    static void theLongerRouteOfACancelledMessageIsGone() {
        slope().call("cancel", 0).dueHop(0, 0, 7, 6, 6).refused(INDEX, "hop", 0, 1, 0).refused(INDEX, "hop", 1, 0, 0);
        // A short route in the place of a long one has no more transmissions than its own.
        slope().call("cancel", 1).call("cancel", 0).call("send", 3, 4, 1, 6).dueHop(0, 0, 3, 4, 6)
                .refused(INDEX, "hop", 0, 1, 0);
    }

    @Sentence(OUT_OF_RANGE)
    static void aPartTooSmall() {
        slope().refused(ARGUMENT, "hop", 0, 0, -1).refused(ARGUMENT, "hop", 0, 6, -1)
                .refused(ARGUMENT, "hop", 1, 0, MIN);
    }

    @Sentence(OUT_OF_RANGE)
    static void aPartTooLarge() {
        slope().refused(ARGUMENT, "hop", 0, 0, 3).refused(ARGUMENT, "hop", 0, 6, 3).refused(ARGUMENT, "hop", 1, 0, MAX);
    }

    @Sentence("If several exceptions apply, the one that is named first in the throws clause is thrown.")
    static void noMessageOrNoTransmissionAndNoPart() {
        new Run().refused(INDEX, "hop", 0, 0, 3);
        slope().refused(INDEX, "hop", 2, 0, 3).refused(INDEX, "hop", -1, 0, -1).refused(INDEX, "hop", 0, 7, 3)
                .refused(INDEX, "hop", 0, -1, -1).refused(INDEX, "hop", 1, 1, 3).refused(INDEX, "hop", MAX, MAX, MAX);
    }

    @Sentence(WHAT)
    static void theLeastAndTheGreatestTurn() {
        Run.eightStations().call("send", 0, 7, 1, 0).call("send", 7, 0, 1, 71).dueHop(0, 0, 0, 7, 6)
                .dueHop(1, 0, 7, 0, 71);
    }

    @Sentence("Returns a part of a transmission of a message.")
    static void itChangesNothing() {
        Run.some().call("hop", 0, 0, 0).call("hop", 2, 0, 2).sameAs(Run.some());
    }
}
