/** Promise 13: clearClouds. */
public final class Promise13ClearCloudsTest extends PromiseTests {

    public static void main(String[] args) {
        runAll(Promise13ClearCloudsTest.class);
    }

    @Sentence("Returns how many there were.")
    static void returnsNoneIfThereAreNone() {
        new Run().due(0, "clearClouds").due(0, "clearClouds");
        Run.eightStations().due(0, "clearClouds");
    }

    @Sentence("Returns how many there were.")
    static void returnsOneToSix() {
        for (int clouds = 1; clouds <= 6; clouds++) {
            Run x = new Run();
            for (int i = 0; i < clouds; i++) {
                x.call("addCloud", 0, 143, 6, 17);
            }
            x.due(clouds, "clearClouds").due(0, "count", 1).due(0, "clearClouds");
        }
    }

    @Sentence("Returns how many there were.")
    static void aRefusedCloudIsNotCounted() {
        new Run().sixClouds(0, 0, 6, 6).refused(STATE, "addCloud", 0, 0, 6, 6).due(6, "clearClouds");
        new Run().refused(INDEX, "addCloud", 0, 144, 6, 6).refused(ARGUMENT, "addCloud", 0, 0, 7, 6)
                .due(0, "clearClouds");
    }

    @Sentence("Removes all clouds.")
    static void theStationsHaveSunAgain() {
        new Run().stations(2, 0, 143).call("addCloud", 0, 0, 6, 17).call("addCloud", 0, 143, 9, 12)
                .due(0, "station", 0, 4)
                .due(2, "clearClouds").due(ALL_SUN, "station", 0, 4).due(ALL_SUN, "station", 1, 4)
                .due(0, "link", 0, 1, 9);
    }

    @Sentence("Removes all clouds.")
    static void sixMoreHaveRoomAndAreNumberedAnew() {
        Run x = new Run().stations(2, 5).sixClouds(0, 143, 6, 17).call("clearClouds");
        for (int i = 0; i < 6; i++) {
            x.due(i, "addCloud", 5, 5, 7, 7);
        }
        x.due(ALL_SUN - hour(7), "station", 0, 4).refused(STATE, "addCloud", 5, 5, 7, 7);
    }

    @Sentence("Removes all clouds.")
    static void allElseStays() {
        Run.eightStations().twentyMessages().sixClouds(0, 143, 6, 17).due(6, "clearClouds")
                .sameAs(Run.eightStations().twentyMessages());
        Run.some().due(2, "clearClouds").dueCounts(3, 0, 3, 40, 127, 1, 4, 12, 44).due(6, "clearBuffer");
    }
}
