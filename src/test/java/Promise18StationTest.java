/** Promise 18: station. */
public final class Promise18StationTest extends PromiseTests {

    private static final String NO_STATION = "Throws `IndexOutOfBoundsException` if the station does not exist";
    private static final String OUT_OF_RANGE = "Throws `IllegalArgumentException` if what is not 0 to 5";
    private static final String WHAT = "0: its cell; 1: its mast; 2: its mirrors; 3: its eye; 4: the set of the"
            + " hours at which it has sun (the sun is up, not blocked, and no cloud covers the station), bit h for"
            + " hour h; 5: its busy turns";
    private static final String UP = "At hour h the sun stands in the direction (east, south, up) = (12 - h, 3, 6 -"
            + " |12 - h|). It is up if the last number is greater than 0.";
    private static final String BLOCKED = "The light at a station is blocked by the terrain if for some k from 1 on,"
            + " as long as cell number k along the step (12 - h, 3) is on the terrain, the height of this cell,"
            + " times m, is greater than the eye times m plus 20 * up * k.";

    public static void main(String[] args) {
        runAll(Promise18StationTest.class);
    }

    @Sentence("- `station`: number of the station")
    static void theFirstAndTheLastStation() {
        Run.eightStations().dueStation(0, 0, 0, 2, 0, ALL_SUN, 0).dueStation(7, 78, 0, 2, 0, ALL_SUN, 0);
    }

    @Sentence(NO_STATION)
    static void theStationBeforeTheFirst() {
        Run.some().refused(INDEX, "station", -1, 0).refused(INDEX, "station", MIN, 0);
    }

    @Sentence(NO_STATION)
    static void theStationBehindTheLast() {
        new Run().refused(INDEX, "station", 0, 0);
        Run.some().refused(INDEX, "station", 3, 0).refused(INDEX, "station", MAX, 0);
        Run.eightStations().refused(INDEX, "station", 8, 0);
    }

    @Sentence(OUT_OF_RANGE)
    static void aPropertyTooSmall() {
        Run.some().refused(ARGUMENT, "station", 0, -1).refused(ARGUMENT, "station", 2, MIN);
    }

    @Sentence(OUT_OF_RANGE)
    static void aPropertyTooLarge() {
        Run.some().refused(ARGUMENT, "station", 0, 6).refused(ARGUMENT, "station", 2, MAX);
    }

    @Sentence("If several exceptions apply, the one that is named first in the throws clause is thrown.")
    static void neitherStationNorPropertyIsRight() {
        new Run().refused(INDEX, "station", 0, 6);
        Run.some().refused(INDEX, "station", 3, 6).refused(INDEX, "station", -1, -1)
                .refused(INDEX, "station", MAX, MIN);
    }

    @Sentence({"Returns a property of a station.", "Returns the property.", WHAT})
    static void theLeastAndTheGreatestOfEach() {
        new Run().call("addStation", 0, 0, 1).dueStation(0, 0, 0, 1, 0, ALL_SUN, 0);
        new Run().call("setHeight", 143, 500).call("addStation", 143, 50, 2).dueStation(0, 143, 50, 2, 550, ALL_SUN, 0);
        Run.some().dueStation(0, 0, 10, 2, 10, ALL_SUN - hour(17), 6).dueStation(1, 11, 50, 1, 50, ALL_SUN, 5)
                .dueStation(2, 60, 10, 1, 10, ALL_SUN - hour(9) - hour(10), 1).sameAs(Run.some());
    }

    @Sentence("The eye of a station is the height of its cell plus its mast.")
    static void theEye() {
        new Run().call("addStation", 9, 0, 1).due(0, "station", 0, 3).call("setHeight", 9, 500)
                .due(500, "station", 0, 3)
                .call("setMast", 0, 50).due(550, "station", 0, 3).call("setHeight", 9, 0).due(50, "station", 0, 3);
    }

    // ---- its sun

    @Sentence({"The day has the hours 6 to 17.", UP, WHAT})
    static void theSunIsUpFrom7To17() {
        for (int cell = 0; cell < 144; cell++) {
            new Run().stations(1, cell).due(ALL_SUN, "station", 0, 4);
        }
    }

    /** The hours that one cell of a height takes from a station on an eye of 0. */
    private static void dueLost(int place, int cell, int height, int... hours) {
        int left = ALL_SUN;
        for (int h : hours) {
            left -= hour(h);
        }
        new Run().stations(2, place).call("setHeight", cell, height).due(left, "station", 0, 4);
    }

    @Sentence({BLOCKED, UP})
    static void theLightOfEachHourJustPassesOrIsBlocked() {
        // One cell to the south-east of (5, 5) the light is at 4, 10, 20 and 26 2/3 at the hours 7, 8, 9 and 10.
        dueLost(65, 78, 4);
        dueLost(65, 78, 5, 7);
        dueLost(65, 78, 10, 7);
        dueLost(65, 78, 11, 7, 8);
        dueLost(65, 78, 20, 7, 8);
        dueLost(65, 78, 21, 7, 8, 9);
        dueLost(65, 78, 26, 7, 8, 9);
        dueLost(65, 78, 27, 7, 8, 9, 10);
        dueLost(65, 78, 500, 7, 8, 9, 10);
        // To the south it is at 33 1/3, 40 and 33 1/3 at 11, 12 and 13.
        dueLost(65, 77, 33);
        dueLost(65, 77, 34, 11, 13);
        dueLost(65, 77, 40, 11, 13);
        dueLost(65, 77, 41, 11, 12, 13);
        dueLost(65, 77, 500, 11, 12, 13);
        // To the south-west as to the south-east, in the afternoon.
        dueLost(65, 76, 4);
        dueLost(65, 76, 5, 17);
        dueLost(65, 76, 10, 17);
        dueLost(65, 76, 11, 16, 17);
        dueLost(65, 76, 20, 16, 17);
        dueLost(65, 76, 21, 15, 16, 17);
        dueLost(65, 76, 26, 15, 16, 17);
        dueLost(65, 76, 27, 14, 15, 16, 17);
    }

    @Sentence(BLOCKED)
    static void theSecondCellOfEachLine() {
        // At 7 it is (2, 6 / 5), at 8 (2, 6 / 4): the half goes on to 2.
        dueLost(65, 79, 8);
        dueLost(65, 79, 9, 7);
        dueLost(65, 79, 500, 7);
        dueLost(65, 91, 20);
        dueLost(65, 91, 21, 8);
        dueLost(65, 91, 40, 8);
        dueLost(65, 91, 41, 8, 9);
        dueLost(65, 75, 500, 17);
        dueLost(65, 87, 21, 16);
        // At 10 it is (4 / 3, 2), at 11 (2 / 3, 2): both are at (1, 2). At noon it is (0, 2).
        dueLost(65, 90, 500, 10, 11);
        dueLost(65, 89, 500, 12);
        dueLost(65, 88, 500, 13, 14);
        dueLost(65, 92, 500, 7, 8);
        dueLost(65, 89, 80);
        dueLost(65, 89, 81, 12);
    }

    @Sentence(BLOCKED)
    static void theLastCellOnTheTerrain() {
        // Six rows to the south of (5, 5) the light of noon is at 240, and at 9 in the last column at 120.
        dueLost(65, 137, 240);
        dueLost(65, 137, 241, 12);
        dueLost(65, 143, 120);
        dueLost(65, 143, 121, 9);
        // Eleven columns at 7, from corner to border: (11, 33 / 5) is (11, 7), where the light is at 44.
        dueLost(0, 95, 44);
        dueLost(0, 95, 45, 7);
        // Eleven rows at noon: 440, and a diagonal of eleven cells at 9: 220.
        dueLost(0, 132, 440);
        dueLost(0, 132, 441, 12);
        dueLost(0, 143, 220);
        dueLost(0, 143, 221, 9);
        dueLost(11, 132, 220);
        dueLost(11, 132, 221, 15);
        dueLost(65, 131, 500, 8);
        dueLost(65, 119, 500, 7);
        // A single cell is left to the south, to the west or to the east.
        dueLost(126, 138, 500, 11, 12, 13);
        dueLost(61, 72, 500, 14, 15, 16, 17);
        dueLost(70, 83, 500, 7, 8, 9, 10);
    }

    @Sentence(BLOCKED)
    static void beyondTheTerrainNothingStands() {
        // In the last row all light comes from beyond; so it does at the borders, where the line must not go round.
        for (int cell = 132; cell < 144; cell++) {
            new Run().text("500*132").call("load", 0).stations(2, cell).due(ALL_SUN, "station", 0, 4);
        }
        dueLost(11, 24, 500);
        dueLost(71, 84, 500);
        dueLost(60, 71, 500);
        dueLost(60, 83, 500);
        dueLost(71, 72, 500);
        dueLost(65, 5, 500);
    }

    @Sentence(BLOCKED)
    static void cellsBesideTheLinesDoNotMatter() {
        dueLost(65, 64, 500);
        dueLost(65, 66, 500);
        dueLost(65, 53, 500);
        dueLost(65, 54, 500);
        dueLost(65, 52, 500);
        dueLost(65, 65, 500);
    }

    @Sentence(BLOCKED)
    static void theEyeIsLiftedByMastAndHeight() {
        new Run().call("setHeight", 77, 51).call("addStation", 65, 10, 2).due(ALL_SUN - hour(11) - hour(12) - hour(13),
                "station", 0, 4).call("setMast", 0, 11).due(ALL_SUN - hour(11) - hour(13), "station", 0, 4)
                .call("setMast", 0, 18).due(ALL_SUN, "station", 0, 4).call("setMast", 0, 17)
                .due(ALL_SUN - hour(11) - hour(13), "station", 0, 4).call("setMast", 0, 0).call("setHeight", 65, 18)
                .due(ALL_SUN, "station", 0, 4);
    }

    @Sentence(BLOCKED)
    static void aWallAllAround() {
        Run x = new Run().call("hill", 65, 500, 1).call("setHeight", 65, 0);
        x.call("setHeight", 76, 500).call("setHeight", 77, 500).call("setHeight", 78, 500).stations(2, 65)
                .due(0, "station", 0, 4);
    }

    @Sentence({WHAT, "The stations on these cells have no sun in these hours; they can receive."})
    static void cloudsTakeTheirHours() {
        new Run().stations(2, 65).call("addCloud", 65, 65, 6, 6).due(ALL_SUN, "station", 0, 4)
                .call("addCloud", 65, 65, 7, 7).due(ALL_SUN - hour(7), "station", 0, 4)
                .call("addCloud", 65, 65, 17, 17).due(ALL_SUN - hour(7) - hour(17), "station", 0, 4)
                .call("addCloud", 64, 64, 6, 17).due(ALL_SUN - hour(7) - hour(17), "station", 0, 4)
                .call("addCloud", 65, 65, 6, 17).due(0, "station", 0, 4);
    }

    // ---- its busy turns

    @Sentence(WHAT)
    static void busyTurnsFromNoneToAllWithSun() {
        Run x = new Run().stations(2, 0, 11, 132).due(0, "station", 0, 5);
        x.call("send", 0, 1, 1, 6).due(1, "station", 0, 5).due(1, "station", 1, 5).due(0, "station", 2, 5);
        x.call("send", 2, 0, 6, 6).due(7, "station", 0, 5).due(1, "station", 1, 5).due(6, "station", 2, 5);
        x.call("cancel", 0).due(6, "station", 0, 5).due(0, "station", 1, 5).due(6, "station", 2, 5);
        Run all = new Run().stations(2, 0, 11, 132);
        for (int i = 0; i < 11; i++) {
            all.call("send", i % 2, 1 - i % 2, 6, 0);
        }
        all.due(66, "station", 0, 5).due(66, "station", 1, 5).due(0, "station", 2, 5);
    }
}
