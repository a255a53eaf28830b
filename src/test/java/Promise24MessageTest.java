/** Promise 24: message. */
public final class Promise24MessageTest extends PromiseTests {

    private static final String NO_MESSAGE = "Throws `IndexOutOfBoundsException` if the message does not exist";
    private static final String OUT_OF_RANGE = "Throws `IllegalArgumentException` if what is not 0 to 5";
    private static final String WHAT = "0: its sender; 1: its receiver; 2: its length; 3: the turn from which on it"
            + " could be sent; 4: its arrival at the receiver; 5: the number of its transmissions";

    public static void main(String[] args) {
        runAll(Promise24MessageTest.class);
    }

    @Sentence({"- `message`: number of the message", "There are at most 20 messages, numbered from 0"})
    static void theFirstAndTheLastMessage() {
        Run.eightStations().twentyMessages().dueMessage(0, 0, 1, 1, 6, 7, 1).dueMessage(19, 0, 1, 1, 25, 26, 1);
    }

    @Sentence(NO_MESSAGE)
    static void theMessageBeforeTheFirst() {
        Run.some().refused(INDEX, "message", -1, 0).refused(INDEX, "message", MIN, 0);
    }

    @Sentence(NO_MESSAGE)
    static void theMessageBehindTheLast() {
        new Run().refused(INDEX, "message", 0, 0);
        Run.eightStations().refused(INDEX, "message", 0, 0);
        Run.some().refused(INDEX, "message", 3, 0).refused(INDEX, "message", MAX, 0);
        Run.full().refused(INDEX, "message", 20, 0);
        Run.some().call("cancel", 0).refused(INDEX, "message", 2, 0);
    }

    @Sentence(NO_MESSAGE)
    static void oneThatWasNotSent() {
        Run.eightStations().due(NONE, "send", 0, 1, 6, 67).refused(INDEX, "message", 0, 0);
    }

    @Sentence(OUT_OF_RANGE)
    static void aPropertyTooSmall() {
        Run.some().refused(ARGUMENT, "message", 0, -1).refused(ARGUMENT, "message", 2, MIN);
    }

    @Sentence(OUT_OF_RANGE)
    static void aPropertyTooLarge() {
        Run.some().refused(ARGUMENT, "message", 0, 6).refused(ARGUMENT, "message", 2, MAX);
    }

    @Sentence("If several exceptions apply, the one that is named first in the throws clause is thrown.")
    static void neitherMessageNorPropertyIsRight() {
        new Run().refused(INDEX, "message", 0, 6);
        Run.some().refused(INDEX, "message", 3, 6).refused(INDEX, "message", -1, -1)
                .refused(INDEX, "message", MAX, MIN);
    }

    @Sentence({"Returns a property of a message.", "Returns the property.", WHAT,
        "A message has a sender, a receiver, a length of n turns (1 to 6), and a turn from which on it can be sent."})
    static void theLeastAndTheGreatestOfEach() {
        Run.eightStations().call("send", 0, 7, 1, 0).dueMessage(0, 0, 7, 1, 0, 7, 1);
        Run.eightStations().call("send", 7, 0, 6, 66).dueMessage(0, 7, 0, 6, 66, 72, 1);
        Run.eightStations().call("send", 5, 6, 1, 71).dueMessage(0, 5, 6, 1, 71, 72, 1);
    }

    @Sentence(WHAT)
    static void theTurnFromWhichOnAndNotTheFirstTurn() {
        Run.eightStations().call("send", 0, 1, 2, 3).dueMessage(0, 0, 1, 2, 3, 8, 1).call("send", 0, 1, 2, 5)
                .dueMessage(1, 0, 1, 2, 5, 10, 1);
    }

    @Sentence(WHAT)
    static void oneToSevenTransmissions() {
        int[] heights = {0, 60, 110, 150, 180, 200, 210, 211};
        for (int last = 1; last < 8; last++) {
            Run x = new Run();
            for (int i = 0; i < 8; i++) {
                x.call("setHeight", 62 + i, heights[i]).call("addStation", 62 + i, 0, 2);
            }
            x.call("send", 0, last, 1, 6).dueMessage(0, 0, last, 1, 6, 6 + last, last);
        }
    }

    @Sentence("Returns a property of a message.")
    static void itChangesNothing() {
        Run.some().call("message", 0, 0).call("message", 2, 5).sameAs(Run.some());
    }

    @Sentence("Messages that have been sent keep their routes, whatever is changed afterwards.")
    static void whateverIsChanged() {
        Run.some().call("addCloud", 0, 143, 6, 17).call("setHeight", 5, 500).call("setMast", 0, 0).call("lend", 0, 1)
                .dueMessage(0, 0, 1, 3, 6, 9, 1).dueMessage(1, 0, 2, 1, 20, 21, 1).dueMessage(2, 1, 0, 2, 40, 44, 1);
    }
}
