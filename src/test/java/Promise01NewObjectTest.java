/** Promise 1: a new object. */
public final class Promise01NewObjectTest extends PromiseTests {

    private static final String CREATES =
            "Creates a telegraph without stations, clouds and messages on a flat terrain, with an empty buffer.";

    public static void main(String[] args) {
        runAll(Promise01NewObjectTest.class);
    }

    @Sentence(CREATES)
    static void thereAreNoStations() {
        new Run().due(0, "count", 0).due(0, "count", 5).due(0, "count", 6).due(0, "count", 7).due(0.0, "workload")
                .refused(INDEX, "station", 0, 0).refused(INDEX, "setMast", 0, 0).refused(INDEX, "busy", 0, 0)
                .due(0, "begin");
    }

    @Sentence(CREATES)
    static void noCellHasAStation() {
        for (int cell = 0; cell < 144; cell++) {
            new Run().due(0, "addStation", cell, 0, 1);
        }
    }

    @Sentence(CREATES)
    static void thereAreNoClouds() {
        new Run().due(0, "count", 1).due(0, "clearClouds").due(0, "addCloud", 0, 0, 6, 6);
        for (int cell = 0; cell < 144; cell++) {
            new Run().stations(1, cell).due(ALL_SUN, "station", 0, 4);
        }
    }

    @Sentence(CREATES)
    static void thereAreNoMessages() {
        new Run().due(0, "count", 2).due(NONE, "count", 8).due(0, "reorder")
                .refused(INDEX, "message", 0, 0).refused(INDEX, "hop", 0, 0, 0).refused(INDEX, "cancel", 0);
    }

    @Sentence(CREATES)
    static void noTurnIsBusy() {
        Run x = Run.eightStations();
        for (int station = 0; station < 8; station++) {
            x.due(0, "station", station, 5);
        }
        for (int turn = 0; turn < 72; turn++) {
            x.due(NONE, "busy", 0, turn).due(NONE, "busy", 7, turn);
        }
    }

    @Sentence({CREATES, "has a height from 0 to 500 metres, 0 at first"})
    static void allHeightsAreZero() {
        Run x = new Run().due(0, "count", 3).due(0, "count", 4);
        for (int cell = 0; cell < 144; cell++) {
            x.due(0, "setHeight", cell, 1);
        }
        x.due(144, "count", 4);
    }

    @Sentence(CREATES)
    static void theBufferIsEmpty() {
        new Run().due(0, "firstError").refused(ARGUMENT, "load", 0).due(0, "clearBuffer").due(1, "append", 48);
    }

    @Sentence("`NONE = -1`: There is nothing to return.")
    static void noneIsMinusOne() {
        Check.same("NONE", "-1", String.valueOf(MirrorTelegraph.NONE));
    }

    @Sentence("An object is used for at most 512 calls after it has been made")
    static void theLastOf512CallsIsAnswered() {
        Run x = new Run().stations(2, 0, 11);
        for (int i = 0; i < 254; i++) {
            x.due(7, "send", 0, 1, 1, 6).due(0, "cancel", 0);
        }
        x.due(12, "send", 1, 0, 6, 0).due(6, "station", 0, 5);
    }

    @Sentence("An object is used for at most 512 calls after it has been made")
    static void refusedCallsWearNothingOut() {
        MirrorTelegraph x = new MirrorTelegraph();
        for (int i = 0; i < 511; i++) {
            try {
                x.setHeight(144, i);
                Check.same("setHeight(144, " + i + ")", "throws." + INDEX, "an answer");
            } catch (IndexOutOfBoundsException e) {
                Check.same("setHeight(144, " + i + ")", INDEX, e.getClass().getSimpleName());
            }
        }
        Check.same("the 512th call", "0", String.valueOf(x.setHeight(143, 500)));
    }

    @Sentence(CREATES)
    static void anObjectKnowsNothingOfAnother() {
        Run.full();
        Run x = new Run();
        Run.full();
        x.sameAs(new Run());
        x.dueCounts(0, 0, 0, 0, 0, 0, 0, 0, NONE);
    }
}
