/** Promise 15: cancel. */
public final class Promise15CancelTest extends PromiseTests {

    private static final String NO_MESSAGE = "Throws `IndexOutOfBoundsException` if the message does not exist";
    private static final String CANCELLED = "A message can be cancelled: its turns are not busy any more, and the"
            + " numbers of the later ones decrease by 1.";
    private static final String LEFT = "Returns how many messages are left.";

    public static void main(String[] args) {
        runAll(Promise15CancelTest.class);
    }

    /** Three messages: 0 and 2 between the stations 0 and 1, and 1 between the stations 2 and 3. */
    private static Run three() {
        return new Run().stations(2, 0, 11, 132, 143).call("send", 0, 1, 2, 6).call("send", 2, 3, 3, 6)
                .call("send", 1, 0, 1, 5);
    }

    @Sentence({NO_MESSAGE, "- `message`: number of the message"})
    static void theMessageBeforeTheFirst() {
        three().refused(INDEX, "cancel", -1).refused(INDEX, "cancel", MIN);
    }

    @Sentence(NO_MESSAGE)
    static void theMessageBehindTheLast() {
        three().refused(INDEX, "cancel", 3).refused(INDEX, "cancel", MAX);
        Run.full().refused(INDEX, "cancel", 20);
    }

    @Sentence(NO_MESSAGE)
    static void thereAreNoMessages() {
        new Run().refused(INDEX, "cancel", 0).refused(INDEX, "cancel", -1);
        Run.eightStations().refused(INDEX, "cancel", 0);
        three().call("cancel", 0).call("cancel", 0).call("cancel", 0).refused(INDEX, "cancel", 0);
    }

    @Sentence({"Cancels a message.", CANCELLED})
    static void theFirst() {
        three().due(2, "cancel", 0).dueMessage(0, 2, 3, 3, 6, 9, 1).dueMessage(1, 1, 0, 1, 5, 9, 1)
                .dueHop(0, 0, 2, 3, 6)
                .dueHop(1, 0, 1, 0, 8).refused(INDEX, "message", 2, 0).dueBusy(0, 5, NONE, NONE, NONE, 1, NONE)
                .dueBusy(1, 5, NONE, NONE, NONE, 1, NONE).dueBusy(2, 5, NONE, 0, 0, 0, NONE);
    }

    @Sentence(CANCELLED)
    static void theOneInTheMiddle() {
        three().due(2, "cancel", 1).dueMessage(0, 0, 1, 2, 6, 8, 1).dueMessage(1, 1, 0, 1, 5, 9, 1)
                .dueHop(0, 0, 0, 1, 6)
                .dueHop(1, 0, 1, 0, 8).refused(INDEX, "message", 2, 0).dueBusy(0, 5, NONE, 0, 0, 1, NONE)
                .dueBusy(2, 5, NONE, NONE, NONE, NONE, NONE).dueBusy(3, 5, NONE, NONE, NONE, NONE, NONE);
    }

    @Sentence(CANCELLED)
    static void theLast() {
        three().due(2, "cancel", 2).dueMessage(0, 0, 1, 2, 6, 8, 1).dueMessage(1, 2, 3, 3, 6, 9, 1)
                .refused(INDEX, "message", 2, 0).dueBusy(0, 5, NONE, 0, 0, NONE, NONE)
                .dueBusy(2, 5, NONE, 1, 1, 1, NONE);
    }

    @Sentence({CANCELLED, LEFT})
    static void theOnlyOne() {
        new Run().stations(2, 0, 11).call("send", 0, 1, 6, 0).due(0, "cancel", 0)
                .dueCounts(2, 0, 0, 0, 0, 2, 2, 0, NONE)
                .sameAs(new Run().stations(2, 0, 11));
    }

    @Sentence({CANCELLED, LEFT})
    static void theFirstOfTwenty() {
        Run x = Run.eightStations().twentyMessages().due(19, "cancel", 0).due(NONE, "busy", 0, 6);
        for (int i = 0; i < 19; i++) {
            x.dueMessage(i, 0, 1, 1, 7 + i, 8 + i, 1).dueHop(i, 0, 0, 1, 7 + i).due(i, "busy", 1, 7 + i);
        }
        x.refused(INDEX, "message", 19, 0).due(38, "count", 7);
    }

    @Sentence({CANCELLED, LEFT})
    static void theLastOfTwenty() {
        Run x = Run.eightStations().twentyMessages().due(19, "cancel", 19).due(NONE, "busy", 0, 25);
        for (int i = 0; i < 19; i++) {
            x.due(6 + i, "message", i, 3).due(i, "busy", 1, 6 + i);
        }
        x.refused(INDEX, "cancel", 19).due(25, "count", 8);
    }

    @Sentence(LEFT)
    static void returns19To0() {
        Run x = Run.eightStations().twentyMessages();
        for (int left = 19; left >= 0; left--) {
            x.due(left, "cancel", left / 2).due(left, "count", 2).due(2 * left, "count", 7);
        }
        x.refused(INDEX, "cancel", 0);
    }

    @Sentence(CANCELLED)
    static void allTransmissionsOfALongRoute() {
        // The sender and the receiver do not see one another; the relay 2 sees both.
        Run x = new Run().stations(2, 60, 62).call("addStation", 49, 50, 2).call("setHeight", 61, 100);
        x.call("send", 1, 2, 1, 6).call("send", 0, 1, 2, 6).due(2, "message", 1, 5).call("send", 2, 0, 1, 20);
        x.due(2, "cancel", 1).dueCounts(3, 0, 2, 100, 100, 3, 4, 4, 21)
                .dueBusy(0, 5, NONE, NONE, NONE, NONE, NONE, NONE)
                .dueBusy(2, 5, NONE, 0, NONE, NONE, NONE, NONE, NONE).due(1, "busy", 2, 20).dueHop(1, 0, 2, 0, 20)
                .refused(INDEX, "hop", 1, 1, 0);
    }

    @Sentence(CANCELLED)
    static void itsTurnsCanBeBookedAgain() {
        Run x = new Run().stations(2, 0, 11).call("send", 0, 1, 6, 6).due(18, "arrival", 0, 1, 6, 6).call("cancel", 0);
        x.due(12, "arrival", 0, 1, 6, 6).due(12, "send", 1, 0, 6, 6).dueBusy(0, 5, NONE, 0, 0, 0, 0, 0, 0, NONE);
    }

    @Sentence("Messages that have been sent keep their routes, whatever is changed afterwards.")
    static void theLaterOnesDoNotMoveUp() {
        new Run().stations(2, 0, 11).call("send", 0, 1, 6, 6).due(18, "send", 0, 1, 6, 6).call("cancel", 0)
                .dueMessage(0, 0, 1, 6, 6, 18, 1).dueHop(0, 0, 0, 1, 12);
    }
}
