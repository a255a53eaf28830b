/** Promise 16: reorder. */
public final class Promise16ReorderTest extends PromiseTests {

    private static final String AGAIN = "Cancels all messages, and sends them again in ascending order of their"
            + " lengths, those of the same length in ascending order of their numbers; each with the same sender,"
            + " receiver, length and turn.";
    private static final String LOST = "Those that cannot arrive any more are not sent again.";
    private static final String HOW_MANY = "Returns how many were sent again.";

    public static void main(String[] args) {
        runAll(Promise16ReorderTest.class);
    }

    private static Run pair() {
        return new Run().stations(2, 0, 11);
    }

    @Sentence(HOW_MANY)
    static void thereAreNoMessages() {
        new Run().due(0, "reorder").sameAs(new Run());
        Run.eightStations().due(0, "reorder").sameAs(Run.eightStations());
    }

    @Sentence({AGAIN, HOW_MANY})
    static void oneMessage() {
        pair().call("send", 0, 1, 3, 6).due(1, "reorder").sameAs(pair().call("send", 0, 1, 3, 6));
    }

    @Sentence(AGAIN)
    static void theShorterOnesFirst() {
        Run x = pair();
        for (int length = 6; length >= 1; length--) {
            x.call("send", length % 2, 1 - length % 2, length, 6);
        }
        x.due(27, "count", 8).due(6, "reorder");
        int turn = 6;
        for (int length = 1; length <= 6; length++) {
            x.dueMessage(length - 1, length % 2, 1 - length % 2, length, 6, turn + length, 1);
            x.due(length - 1, "busy", 0, turn);
            turn += length;
        }
        x.due(27, "count", 8).due(42, "count", 7);
    }

    @Sentence(AGAIN)
    static void thoseOfTheSameLengthByTheirNumbers() {
        Run x = pair().call("send", 0, 1, 2, 6).call("send", 1, 0, 1, 9).call("send", 0, 1, 2, 5)
                .call("send", 1, 0, 2, 6)
                .call("send", 0, 1, 1, 5);
        x.due(5, "reorder").dueMessage(0, 1, 0, 1, 9, 10, 1).dueMessage(1, 0, 1, 1, 5, 7, 1)
                .dueMessage(2, 0, 1, 2, 6, 9, 1).dueMessage(3, 0, 1, 2, 5, 12, 1).dueMessage(4, 1, 0, 2, 6, 14, 1)
                .dueBusy(0, 5, NONE, 1, 2, 2, 0, 3, 3, 4, 4, NONE);
    }

    @Sentence(AGAIN)
    static void allAreCancelledBeforeTheFirstIsSent() {
        // The long one stands at the beginning; the short one takes its turns, which would be busy otherwise.
        pair().call("send", 0, 1, 6, 6).due(13, "send", 0, 1, 1, 6).due(2, "reorder").dueMessage(0, 0, 1, 1, 6, 7, 1)
                .dueMessage(1, 0, 1, 6, 6, 13, 1).dueHop(1, 0, 0, 1, 7);
    }

    @Sentence(AGAIN)
    static void whatIsInOrderStays() {
        Run x = pair().call("send", 0, 1, 1, 6).call("send", 0, 1, 2, 6).call("send", 0, 1, 2, 3);
        x.due(3, "reorder").due(3, "reorder").sameAs(pair().call("send", 0, 1, 1, 6).call("send", 0, 1, 2, 6)
                .call("send", 0, 1, 2, 3));
    }

    @Sentence({AGAIN, HOW_MANY})
    static void twentyMessages() {
        Run x = Run.eightStations().twentyMessages().due(20, "reorder");
        for (int i = 0; i < 20; i++) {
            x.dueMessage(i, 0, 1, 1, 6 + i, 7 + i, 1).due(i, "busy", 0, 6 + i);
        }
        x.refused(STATE, "send", 2, 3, 1, 6);
    }

    @Sentence(AGAIN)
    static void theLongestOfTwentyComesLast() {
        Run x = Run.eightStations().call("send", 2, 3, 6, 6);
        for (int i = 0; i < 19; i++) {
            x.call("send", 0, 1, 1, 6 + i);
        }
        x.due(20, "reorder").dueMessage(19, 2, 3, 6, 6, 12, 1).dueMessage(0, 0, 1, 1, 6, 7, 1).due(19, "busy", 3, 6);
    }

    @Sentence(AGAIN)
    static void theRoutesAreFoundAnew() {
        // Over the relay 2 first; when the hill is gone, straight on.
        Run x = new Run().stations(2, 60, 62).call("addStation", 49, 50, 2).call("setHeight", 61, 100);
        x.call("send", 0, 1, 2, 10).due(2, "message", 0, 5).call("setHeight", 61, 0).due(2, "message", 0, 5);
        x.due(1, "reorder").dueMessage(0, 0, 1, 2, 10, 12, 1).dueHop(0, 0, 0, 1, 10).refused(INDEX, "hop", 0, 1, 0)
                .due(0, "station", 2, 5).due(4, "count", 7);
    }

    @Sentence(AGAIN)
    static void aRouteOfSevenTransmissions() {
        Run x = new Run();
        int[] heights = {0, 60, 110, 150, 180, 200, 210, 211};
        for (int i = 0; i < 8; i++) {
            x.call("setHeight", 62 + i, heights[i]).call("addStation", 62 + i, 0, 2);
        }
        x.call("send", 0, 7, 1, 6).due(55, "send", 7, 0, 6, 6).due(2, "reorder").dueMessage(0, 0, 7, 1, 6, 13, 7)
                .dueMessage(1, 7, 0, 6, 6, 55, 7).dueHop(1, 6, 1, 0, 49).call("cancel", 0).due(1, "reorder")
                .dueMessage(0, 7, 0, 6, 6, 48, 7).dueHop(0, 0, 7, 6, 6).dueHop(0, 6, 1, 0, 42);
    }

    @Sentence({LOST, HOW_MANY})
    static void someCannotArriveAnyMore() {
        Run x = new Run().stations(2, 0, 11, 132, 143).call("send", 0, 1, 6, 60).call("send", 1, 0, 2, 6)
                .call("send", 0, 1, 6, 60).call("send", 2, 3, 5, 60);
        // Without sun from turn 60 on, station 0 cannot send its two.
        x.call("addCloud", 0, 0, 16, 17).due(2, "reorder").due(2, "count", 2).dueMessage(0, 1, 0, 2, 6, 8, 1)
                .dueMessage(1, 2, 3, 5, 60, 65, 1).refused(INDEX, "message", 2, 0).due(14, "count", 7)
                .due(NONE, "busy", 0, 60).due(2, "station", 0, 5);
    }

    @Sentence({LOST, HOW_MANY})
    static void noneCanArriveAnyMore() {
        Run.eightStations().twentyMessages().call("addCloud", 0, 143, 6, 17).due(0, "reorder")
                .dueCounts(8, 1, 0, 0, 0, 8, 56, 0, NONE).due(NONE, "busy", 0, 6).refused(INDEX, "message", 0, 0)
                .call("clearClouds").due(0, "reorder").sameAs(Run.eightStations());
    }

    @Sentence(LOST)
    static void oneIsLostByTheOrderAlone() {
        // The shorter ones first leave the turns 66, 67 and 70, where the one of three turns does not fit.
        pair().due(69, "send", 0, 1, 3, 66).due(71, "send", 0, 1, 2, 68).due(72, "send", 0, 1, 1, 71)
                .due(2, "reorder").dueMessage(0, 0, 1, 1, 71, 72, 1).dueMessage(1, 0, 1, 2, 68, 70, 1)
                .dueBusy(0, 66, NONE, NONE, 1, 1, NONE, 0).refused(INDEX, "message", 2, 0);
    }

    @Sentence(LOST)
    static void whatIsLostStaysLost() {
        pair().call("send", 0, 1, 1, 66).call("addCloud", 0, 0, 17, 17).due(0, "reorder").call("clearClouds")
                .due(0, "reorder").due(0, "count", 2);
    }

    @Sentence(AGAIN)
    static void allElseStays() {
        Run x = Run.some().due(3, "reorder");
        x.dueCounts(3, 2, 3, 40, 127, 1, 4, 12, 44).due(6, "clearBuffer");
    }
}
