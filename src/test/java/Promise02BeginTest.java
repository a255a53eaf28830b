/** Promise 2: begin. */
public final class Promise02BeginTest extends PromiseTests {

    private static final String ANEW =
            "Begins anew: all heights are 0; there are no stations, clouds and messages.";

    public static void main(String[] args) {
        runAll(Promise02BeginTest.class);
    }

    @Sentence(ANEW)
    static void allHeightsAreZeroAgain() {
        Run x = new Run().text("500*144").call("load", 0).due(0, "begin").due(0, "count", 3).due(0, "count", 4);
        for (int cell = 0; cell < 144; cell++) {
            x.due(0, "setHeight", cell, 0);
        }
    }

    @Sentence(ANEW)
    static void thereAreNoStationsAnyMore() {
        Run.eightStations().call("begin").due(0, "count", 0).due(0, "count", 5).due(0, "count", 6).due(0.0, "workload")
                .refused(INDEX, "station", 0, 0).refused(INDEX, "station", 7, 0).refused(INDEX, "setMast", 0, 0);
    }

    @Sentence(ANEW)
    static void eightStationsHaveRoomAgainOnTheSameCells() {
        Run x = Run.eightStations().call("begin");
        int[] cells = {78, 77, 66, 65, 143, 132, 11, 0};
        for (int i = 0; i < 8; i++) {
            x.due(i, "addStation", cells[i], 0, 1);
        }
        x.refused(STATE, "addStation", 1, 0, 1);
    }

    @Sentence(ANEW)
    static void nothingOfAnOldStationIsLeft() {
        new Run().call("setHeight", 5, 300).call("addStation", 5, 50, 2).call("begin").call("addStation", 6, 1, 1)
                .dueStation(0, 6, 1, 1, 1, ALL_SUN, 0);
    }

    @Sentence(ANEW)
    static void thereAreNoCloudsAnyMore() {
        Run x = new Run().sixClouds(0, 143, 6, 17).call("begin").due(0, "count", 1);
        x.stations(2, 60).due(ALL_SUN, "station", 0, 4);
        for (int i = 0; i < 6; i++) {
            x.due(i, "addCloud", 0, 0, 6, 6);
        }
        x.refused(STATE, "addCloud", 0, 0, 6, 6);
    }

    @Sentence(ANEW)
    static void thereAreNoMessagesAnyMore() {
        Run.eightStations().twentyMessages().call("begin").due(0, "count", 2).due(0, "count", 7).due(NONE, "count", 8)
                .refused(INDEX, "message", 0, 0).refused(INDEX, "message", 19, 0).refused(INDEX, "cancel", 0)
                .due(0, "reorder");
    }

    @Sentence(ANEW)
    static void theTurnsOfTheOldMessagesAreNotBusy() {
        Run x = Run.eightStations().twentyMessages().call("begin").stations(2, 0, 11);
        x.due(NONE, "busy", 0, 6).due(NONE, "busy", 1, 25).due(0, "station", 0, 5);
        x.due(12, "send", 0, 1, 6, 6).dueBusy(0, 5, NONE, 0, 0, 0, 0, 0, 0, NONE);
    }

    @Sentence(ANEW)
    static void twentyMessagesHaveRoomAgain() {
        Run x = Run.eightStations().twentyMessages().call("begin").stations(2, 0, 11).twentyMessages();
        x.due(20, "count", 2).refused(STATE, "send", 0, 1, 1, 60);
    }

    @Sentence({ANEW, "The buffer stays."})
    static void allIsAsInANewObjectButTheBuffer() {
        Run.full().call("begin").sameAs(new Run().text(Run.FULL_TEXT));
        Run.some().call("begin").sameAs(new Run().text("12,5*3"));
        Run.some().call("clearBuffer").call("begin").sameAs(new Run());
    }

    @Sentence("The buffer stays.")
    static void aFullBufferStaysFull() {
        new Run().text(Run.FULL_TEXT).due(0, "begin").refused(STATE, "append", '0').due(40, "clearBuffer");
    }

    @Sentence("The buffer stays.")
    static void halfATextStaysAndCanBeGoneOnWith() {
        new Run().text("7*").due(0, "begin").due(3, "append", '2').due(2, "load", 142).dueHeights(141, 0, 7, 7);
    }

    @Sentence("Returns how many stations there were.")
    static void returnsNoneOneAndEight() {
        new Run().due(0, "begin");
        new Run().stations(1, 143).due(1, "begin").due(0, "begin");
        Run.eightStations().due(8, "begin").due(0, "begin");
        Run.full().due(8, "begin").due(0, "begin");
    }
}
