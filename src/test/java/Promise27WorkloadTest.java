/** Promise 27: workload. */
public final class Promise27WorkloadTest extends PromiseTests {

    private static final String RETURNS = "Returns the number of busy turns of all stations, as a double, divided by"
            + " (72 * number of stations); 0.0 if there are no stations.";

    public static void main(String[] args) {
        runAll(Promise27WorkloadTest.class);
    }

    @Sentence(RETURNS)
    static void thereAreNoStations() {
        new Run().due(0.0, "workload").stations(2, 0, 11).call("send", 0, 1, 6, 0).call("begin").due(0.0, "workload");
    }

    @Sentence(RETURNS)
    static void thereAreNoMessages() {
        new Run().stations(1, 0).due(0.0, "workload");
        Run.eightStations().due(0.0, "workload");
    }

    @Sentence({"Returns how much of the day the stations are busy.", RETURNS})
    static void fromTwoToEightStations() {
        Run x = new Run().stations(2, 0, 11).call("send", 0, 1, 1, 6);
        int[] cells = {132, 143, 65, 66, 77, 78};
        for (int i = 0; i < cells.length; i++) {
            x.due(2.0 / (72 * (2 + i)), "workload").stations(2, cells[i]);
        }
        x.due(2.0 / 576, "workload");
    }

    @Sentence(RETURNS)
    static void theGreatestOfTwoStations() {
        Run x = new Run().stations(2, 0, 11);
        for (int i = 1; i <= 11; i++) {
            x.call("send", 0, 1, 6, 0).due(12.0 * i / 144, "workload");
        }
        x.due(NONE, "send", 0, 1, 1, 0).due(132.0 / 144, "workload").call("cancel", 10).due(120.0 / 144, "workload");
    }

    @Sentence(RETURNS)
    static void nothingIsRounded() {
        Run.some().due(12.0 / 216, "workload");
        new Run().stations(2, 0, 11, 132).call("send", 0, 1, 1, 0).due(0.009259259259259259, "workload");
    }

    @Sentence("Returns how much of the day the stations are busy.")
    static void itChangesNothing() {
        Run.some().call("workload").sameAs(Run.some());
    }
}
