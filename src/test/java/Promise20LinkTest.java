/** Promise 20: link. */
public final class Promise20LinkTest extends PromiseTests {

    private static final String NO_STATION = "Throws `IndexOutOfBoundsException` if one of the stations does not exist";
    private static final String OUT_OF_RANGE =
            "Throws `IllegalArgumentException` if both are the same, or hour is not 6 to 17";
    private static final String RETURNS = "Returns 0 if it can signal; otherwise the first of these that applies: 1"
            + " the sun is not up; 2 its light is blocked; 3 a cloud covers the station; 4 the line of sight is"
            + " blocked; 5 the mirror cannot throw the light there.";
    private static final String LINKS = "A station can signal to another one at an hour if the sun is up, its light"
            + " is not blocked at the first station, no cloud covers this station, the line of sight from the first"
            + " to the other one is not blocked, and the first one has two mirrors, or 500 * ((12 - h) * dx + 3 *"
            + " dy) + up * (eye of the other - eye of the first) is greater than 0, where (dx, dy) leads from the"
            + " first to the other one.";
    private static final String SINGLE = "(A single mirror cannot throw the light back behind itself.)";

    public static void main(String[] args) {
        runAll(Promise20LinkTest.class);
    }

    private static Run pair(int mirrors, int one, int other) {
        return new Run().stations(mirrors, one, other);
    }

    // ---- the arguments

    @Sentence({"- `from`: number of a station", "- `to`: number of another station"})
    static void theFirstAndTheLastStation() {
        Run.eightStations().due(0, "link", 0, 7, 9).due(0, "link", 7, 0, 9).call("addCloud", 78, 78, 9, 9)
                .due(0, "link", 0, 7, 9).due(3, "link", 7, 0, 9);
    }

    @Sentence(NO_STATION)
    static void theStationBeforeTheFirst() {
        Run.some().refused(INDEX, "link", -1, 0, 9).refused(INDEX, "link", 0, -1, 9).refused(INDEX, "link", MIN, 0, 9)
                .refused(INDEX, "link", 0, MIN, 9);
    }

    @Sentence(NO_STATION)
    static void theStationBehindTheLast() {
        new Run().refused(INDEX, "link", 0, 1, 9);
        Run.some().refused(INDEX, "link", 3, 0, 9).refused(INDEX, "link", 0, 3, 9).refused(INDEX, "link", MAX, 0, 9)
                .refused(INDEX, "link", 0, MAX, 9);
        Run.eightStations().refused(INDEX, "link", 8, 0, 9).refused(INDEX, "link", 0, 8, 9);
    }

    @Sentence(OUT_OF_RANGE)
    static void bothAreTheSame() {
        Run.some().refused(ARGUMENT, "link", 0, 0, 9).refused(ARGUMENT, "link", 2, 2, 6);
    }

    @Sentence({"- `hour`: 6 to 17", "The day has the hours 6 to 17."})
    static void theFirstAndTheLastHour() {
        pair(2, 0, 11).due(1, "link", 0, 1, 6).due(0, "link", 0, 1, 17);
    }

    @Sentence(OUT_OF_RANGE)
    static void anHourTooEarly() {
        Run.some().refused(ARGUMENT, "link", 0, 1, 5).refused(ARGUMENT, "link", 0, 1, 0)
                .refused(ARGUMENT, "link", 0, 1, -1)
                .refused(ARGUMENT, "link", 0, 1, MIN);
    }

    @Sentence(OUT_OF_RANGE)
    static void anHourTooLate() {
        Run.some().refused(ARGUMENT, "link", 0, 1, 18).refused(ARGUMENT, "link", 0, 1, MAX);
    }

    @Sentence("If several exceptions apply, the one that is named first in the throws clause is thrown.")
    static void noStationAndAnythingElse() {
        new Run().refused(INDEX, "link", 0, 0, 9);
        Run.some().refused(INDEX, "link", 3, 3, 9).refused(INDEX, "link", -1, -1, 9).refused(INDEX, "link", 3, 0, 5)
                .refused(INDEX, "link", 0, 3, 18).refused(INDEX, "link", MAX, MAX, MAX);
    }

    @Sentence(OUT_OF_RANGE)
    static void theSameStationAtAWrongHour() {
        Run.some().refused(ARGUMENT, "link", 1, 1, 5).refused(ARGUMENT, "link", 1, 1, 18);
    }

    // ---- the reasons

    @Sentence({RETURNS, "It is up if the last number is greater than 0."})
    static void theSunIsUpFrom7On() {
        Run x = pair(2, 65, 66).due(1, "link", 0, 1, 6).due(1, "link", 1, 0, 6);
        for (int h = 7; h <= 17; h++) {
            x.due(0, "link", 0, 1, h).due(0, "link", 1, 0, h);
        }
    }

    @Sentence({RETURNS, LINKS})
    static void itsLightIsBlocked() {
        Run x = pair(2, 65, 53).call("setHeight", 77, 40).due(0, "link", 0, 1, 12).call("setHeight", 77, 41);
        x.due(2, "link", 0, 1, 12).due(2, "link", 0, 1, 11).due(2, "link", 0, 1, 13).due(0, "link", 0, 1, 10)
                .due(0, "link", 0, 1, 14);
    }

    @Sentence(LINKS)
    static void theLightAtTheOtherStationDoesNotMatter() {
        Run x = pair(2, 65, 53).call("setHeight", 64, 500).call("setHeight", 66, 500);
        // (4, 5) and (6, 5) stand in the light of (5, 4), not in that of (5, 5).
        x.due(2, "link", 1, 0, 9).due(2, "link", 1, 0, 15).due(0, "link", 0, 1, 9).due(0, "link", 0, 1, 15);
    }

    @Sentence({RETURNS, LINKS, "The stations on these cells have no sun in these hours; they can receive."})
    static void aCloudCoversIt() {
        pair(2, 65, 66).call("addCloud", 65, 65, 9, 10).due(0, "link", 0, 1, 8).due(3, "link", 0, 1, 9)
                .due(3, "link", 0, 1, 10).due(0, "link", 0, 1, 11).due(0, "link", 1, 0, 9).due(0, "link", 1, 0, 10);
    }

    @Sentence({RETURNS, LINKS})
    static void theLineOfSightIsBlocked() {
        pair(2, 60, 62).call("setHeight", 61, 1).due(4, "link", 0, 1, 12).due(4, "link", 1, 0, 12);
        // From the first to the other one: backwards the line goes over another cell.
        pair(2, 0, 14).call("setHeight", 13, 1).due(4, "link", 0, 1, 15).due(0, "link", 1, 0, 15);
    }

    @Sentence(RETURNS)
    static void theFirstReasonOfSeveral() {
        Run x = pair(1, 65, 41).call("setHeight", 53, 100).call("setHeight", 77, 500).call("addCloud", 65, 65, 6, 17);
        x.due(1, "link", 0, 1, 6).due(2, "link", 0, 1, 12).call("setHeight", 77, 0).due(3, "link", 0, 1, 12)
                .due(1, "link", 0, 1, 6).call("clearClouds").due(4, "link", 0, 1, 12).due(1, "link", 0, 1, 6)
                .call("setHeight", 53, 0).due(5, "link", 0, 1, 12).due(1, "link", 0, 1, 6).due(0, "link", 1, 0, 12);
    }

    @Sentence(RETURNS)
    static void eachReasonBeforeEachLaterOne() {
        Run dark = pair(1, 65, 41).call("setHeight", 77, 500);
        dark.due(2, "link", 0, 1, 12).call("setHeight", 53, 100).due(2, "link", 0, 1, 12);
        Run clouded = pair(1, 65, 41).call("addCloud", 65, 65, 12, 12);
        clouded.due(3, "link", 0, 1, 12).due(5, "link", 0, 1, 13).call("setHeight", 53, 100).due(3, "link", 0, 1, 12)
                .due(4, "link", 0, 1, 13);
    }

    @Sentence("Returns why a station cannot signal to another one at an hour.")
    static void busyTurnsAreNoReason() {
        Run x = pair(2, 0, 11);
        for (int i = 0; i < 11; i++) {
            x.call("send", 0, 1, 6, 0);
        }
        for (int h = 7; h <= 17; h++) {
            x.due(0, "link", 0, 1, h);
        }
        Run.some().due(0, "link", 0, 1, 7).sameAs(Run.some());
    }

    // ---- mirrors

    @Sentence({SINGLE, LINKS})
    static void aSingleMirrorToTheEastAndWest() {
        Run x = pair(1, 65, 70);
        for (int h = 7; h <= 17; h++) {
            x.due(h < 12 ? 0 : 5, "link", 0, 1, h).due(h > 12 ? 0 : 5, "link", 1, 0, h);
        }
    }

    @Sentence({SINGLE, LINKS})
    static void aSingleMirrorToTheSouthAndNorth() {
        Run x = pair(1, 65, 125);
        for (int h = 7; h <= 17; h++) {
            x.due(0, "link", 0, 1, h).due(5, "link", 1, 0, h);
        }
    }

    @Sentence(LINKS)
    static void twoMirrorsThrowEverywhere() {
        Run x = new Run().stations(2, 65).stations(1, 53, 77, 64, 66);
        for (int h = 7; h <= 17; h++) {
            x.due(0, "link", 0, 1, h).due(0, "link", 0, 2, h).due(0, "link", 0, 3, h).due(0, "link", 0, 4, h);
        }
        // It is the first one's mirrors that count.
        x.due(5, "link", 2, 0, 12).due(5, "link", 3, 0, 13);
    }

    @Sentence(LINKS)
    static void exactlyZeroIsNotEnough() {
        // At noon to the east all is 0; one metre more or less decides.
        new Run().call("addStation", 65, 7, 1).call("addStation", 70, 7, 1).due(5, "link", 0, 1, 12)
                .call("setMast", 1, 8)
                .due(0, "link", 0, 1, 12).due(5, "link", 1, 0, 12).call("setMast", 1, 6).due(5, "link", 0, 1, 12)
                .due(0, "link", 1, 0, 12);
        // To the north at noon: -1500 + 6 * 250.
        pair(1, 65, 53).call("setHeight", 53, 250).due(5, "link", 0, 1, 12).call("setHeight", 53, 251)
                .due(0, "link", 0, 1, 12);
        // At 13: -1500 + 5 * 300; at 11 too.
        pair(1, 65, 53).call("setHeight", 53, 300).due(5, "link", 0, 1, 13).due(5, "link", 0, 1, 11)
                .call("setHeight", 53, 301).due(0, "link", 0, 1, 13).due(0, "link", 0, 1, 11);
        // (3, 1) at 13: 500 * (-3 + 3).
        pair(1, 66, 81).due(5, "link", 0, 1, 13).call("setMast", 1, 1).due(0, "link", 0, 1, 13);
        // (1, -2) at 7: 500 * (5 - 6) + 500.
        pair(1, 65, 42).call("setHeight", 42, 500).due(5, "link", 0, 1, 7).call("setMast", 1, 1)
                .due(0, "link", 0, 1, 7);
    }

    @Sentence(LINKS)
    static void theSunOutweighsTheSlope() {
        // (5, -1): 500 * (5 - 3) at 11, 500 * (0 - 3) at 12; the other way round 500 * (-2) at 11 and 500 * 3 at 12.
        pair(1, 65, 58).due(0, "link", 0, 1, 11).due(5, "link", 0, 1, 12).due(5, "link", 1, 0, 11)
                .due(0, "link", 1, 0, 12);
        // Down to the south: 1500 - 6 * 249 at noon, 1500 - 6 * 250 at noon, 1500 - 5 * 250 at 11.
        pair(1, 65, 77).call("setHeight", 65, 249).due(0, "link", 0, 1, 12).call("setHeight", 65, 250)
                .due(5, "link", 0, 1, 12).due(0, "link", 0, 1, 11);
        // The lower the sun the less the slope counts: 1500 - 1 * 500 at 7 and 17, 1500 - 3 * 500 at 9.
        pair(1, 65, 77).call("setHeight", 65, 500).due(0, "link", 0, 1, 7).due(0, "link", 0, 1, 17)
                .due(0, "link", 0, 1, 8).due(5, "link", 0, 1, 9).due(5, "link", 0, 1, 15);
    }

    @Sentence(LINKS)
    static void theEyesCountWithTheirMasts() {
        new Run().call("addStation", 65, 50, 1).call("addStation", 70, 49, 1).call("setHeight", 70, 1)
                .due(5, "link", 0, 1, 12).call("setHeight", 70, 2).due(0, "link", 0, 1, 12).call("setHeight", 65, 1)
                .due(5, "link", 0, 1, 12);
    }
}
