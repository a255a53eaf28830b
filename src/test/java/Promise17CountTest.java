/** Promise 17: count. */
public final class Promise17CountTest extends PromiseTests {

    private static final String OUT_OF_RANGE = "Throws `IllegalArgumentException` if what is not 0 to 8";
    private static final String WHAT = "0: stations; 1: clouds; 2: messages; 3: the greatest height; 4: the sum of"
            + " all heights; 5: stations with two mirrors; 6: pairs (u, v) of different stations with a line of"
            + " sight from u to v that is not blocked; 7: busy turns of all stations together; 8: the latest arrival"
            + " of all messages, NONE if there are none";

    public static void main(String[] args) {
        runAll(Promise17CountTest.class);
    }

    @Sentence(OUT_OF_RANGE)
    static void aKindTooSmall() {
        Run.some().refused(ARGUMENT, "count", -1).refused(ARGUMENT, "count", MIN);
        new Run().refused(ARGUMENT, "count", -1);
    }

    @Sentence(OUT_OF_RANGE)
    static void aKindTooLarge() {
        Run.some().refused(ARGUMENT, "count", 9).refused(ARGUMENT, "count", MAX);
        new Run().refused(ARGUMENT, "count", 9);
    }

    @Sentence({"Returns a number.", "Returns the number.", WHAT})
    static void ofAnEmptyTelegraph() {
        new Run().dueCounts(0, 0, 0, 0, 0, 0, 0, 0, NONE);
    }

    @Sentence({"Returns the number.", WHAT})
    static void ofAFullTelegraph() {
        Run.full().dueCounts(8, 6, 20, 500, 72000, 8, 56, 40, 26);
    }

    @Sentence(WHAT)
    static void ofABitOfEverything() {
        Run.some().dueCounts(3, 2, 3, 40, 127, 1, 4, 12, 44).sameAs(Run.some());
    }

    @Sentence(WHAT)
    static void stationsCloudsAndMessagesFromNoneOn() {
        Run x = new Run();
        x.due(0, "count", 0).call("addStation", 0, 0, 2).due(1, "count", 0).call("addStation", 1, 0, 2)
                .due(2, "count", 0);
        x.due(0, "count", 1).call("addCloud", 9, 9, 6, 6).due(1, "count", 1);
        x.due(0, "count", 2).call("send", 0, 1, 1, 6).due(1, "count", 2).call("cancel", 0).due(0, "count", 2);
        x.call("clearClouds").due(0, "count", 1).call("begin").due(0, "count", 0);
    }

    @Sentence(WHAT)
    static void theGreatestHeightOnTheFirstTheLastAndAnyCell() {
        int[] cells = {0, 1, 77, 142, 143};
        for (int cell : cells) {
            new Run().call("setHeight", 50, 499).call("setHeight", cell, 500).due(500, "count", 3).due(999, "count", 4);
            new Run().call("setHeight", cell, 1).due(1, "count", 3).due(1, "count", 4);
        }
        // A mast is no height of the terrain.
        new Run().call("addStation", 5, 50, 1).due(0, "count", 3).due(0, "count", 4);
    }

    @Sentence(WHAT)
    static void theGreatestSumOfHeights() {
        new Run().text("500*144").call("load", 0).due(72000, "count", 4).call("setHeight", 143, 499)
                .due(71999, "count", 4)
                .due(500, "count", 3);
    }

    @Sentence(WHAT)
    static void stationsWithTwoMirrors() {
        new Run().stations(1, 0, 1).due(0, "count", 5).stations(2, 2).due(1, "count", 5).call("lend", 2, 0)
                .due(1, "count", 5);
        Run.eightStations().due(8, "count", 5);
        new Run().stations(1, 0, 1, 2, 3, 4, 5, 6, 7).due(0, "count", 5);
    }

    @Sentence(WHAT)
    static void pairsOfDifferentStations() {
        new Run().due(0, "count", 6).stations(2, 0).due(0, "count", 6).stations(2, 11).due(2, "count", 6)
                .stations(2, 132)
                .due(6, "count", 6);
        Run.eightStations().due(56, "count", 6);
    }

    @Sentence(WHAT)
    static void aPairThatSeesOneAnotherOneWayOnly() {
        // From (0, 0) to (2, 1) the line goes over (1, 1), backwards over (1, 0).
        new Run().stations(2, 0, 14).call("setHeight", 13, 1).due(1, "count", 6).call("setHeight", 1, 1)
                .due(0, "count", 6);
        new Run().stations(2, 60, 62).call("setHeight", 61, 1).due(0, "count", 6);
    }

    @Sentence(WHAT)
    static void busyTurnsOfAllStationsTogether() {
        Run x = Run.eightStations().due(0, "count", 7).call("send", 0, 1, 1, 6).due(2, "count", 7);
        x.call("send", 6, 7, 6, 6).due(14, "count", 7).call("cancel", 0).due(12, "count", 7);
        Run all = new Run().stations(2, 0, 11, 132, 143, 65, 66, 77, 78);
        for (int i = 0; i < 11; i++) {
            all.call("send", 0, 1, 6, 0);
        }
        all.due(132, "count", 7).call("send", 7, 6, 6, 0).due(144, "count", 7);
    }

    @Sentence(WHAT)
    static void theLatestArrivalWhateverItsNumber() {
        Run x = Run.eightStations().call("send", 0, 1, 1, 6).due(7, "count", 8).call("send", 0, 1, 1, 71)
                .due(72, "count", 8);
        x.call("send", 0, 1, 1, 30).due(72, "count", 8).call("cancel", 1).due(31, "count", 8).call("cancel", 1)
                .due(7, "count", 8).call("cancel", 0).due(NONE, "count", 8);
        Run.eightStations().due(NONE, "send", 0, 1, 2, 71).due(NONE, "count", 8);
    }
}
