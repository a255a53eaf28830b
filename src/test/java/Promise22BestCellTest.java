/** Promise 22: bestCell. */
public final class Promise22BestCellTest extends PromiseTests {

    private static final String OUT_OF_RANGE = "Throws `IllegalArgumentException` if mast is not 0 to 50";
    private static final String BEST = "Finds the best cell for another station: the cell without a station from"
            + " which, with a mast, the most stations would be in sight (lines of sight from the new station to"
            + " them); of several the highest cell, then the one with the lowest number.";

    public static void main(String[] args) {
        runAll(Promise22BestCellTest.class);
    }

    /**
     * Stations on (0, 5) and, upon a wall, on (1, 5). The higher cell (2, 5) sees the second one, and the first one if
     * its mast lifts the line above the wall; the lower cell (0, 4) is a neighbour of both.
     */
    private static Run wall(int height) {
        return new Run().stations(1, 60, 61).call("setHeight", 61, height).call("setHeight", 62, 10)
                .call("setHeight", 48, 4);
    }

    @Sentence("- `mast`: 0 to 50")
    static void theLeastMast() {
        wall(5).due(62, "bestCell", 0);
        wall(6).due(48, "bestCell", 0).due(48, "bestCell", 1).due(62, "bestCell", 2);
    }

    @Sentence("- `mast`: 0 to 50")
    static void theGreatestMast() {
        wall(30).due(48, "bestCell", 49).due(62, "bestCell", 50);
        wall(31).due(48, "bestCell", 50);
    }

    @Sentence(OUT_OF_RANGE)
    static void aMastTooSmall() {
        new Run().refused(ARGUMENT, "bestCell", -1);
        Run.some().refused(ARGUMENT, "bestCell", -1).refused(ARGUMENT, "bestCell", MIN);
    }

    @Sentence(OUT_OF_RANGE)
    static void aMastTooLarge() {
        new Run().refused(ARGUMENT, "bestCell", 51);
        Run.some().refused(ARGUMENT, "bestCell", 51).refused(ARGUMENT, "bestCell", MAX);
    }

    @Sentence({BEST, "Returns the cell."})
    static void thereAreNoStations() {
        new Run().due(0, "bestCell", 0).due(0, "bestCell", 50).call("setHeight", 143, 1).due(143, "bestCell", 0)
                .call("setHeight", 77, 1).due(77, "bestCell", 0).call("setHeight", 0, 1).due(0, "bestCell", 50);
        new Run().text("500*144").call("load", 0).due(0, "bestCell", 0).call("setHeight", 0, 499).due(1, "bestCell", 0);
    }

    @Sentence(BEST)
    static void aCellWithAStationIsNotTaken() {
        Run x = new Run().stations(1, 0).due(1, "bestCell", 0).stations(1, 1).due(2, "bestCell", 50);
        x.stations(1, 2, 3, 4, 5, 6).due(7, "bestCell", 0);
        new Run().stations(1, 143).call("setHeight", 143, 500).due(0, "bestCell", 0);
        new Run().stations(1, 5).due(0, "bestCell", 0);
    }

    @Sentence(BEST)
    static void thereAreEightStations() {
        Run.eightStations().due(1, "bestCell", 0).call("setHeight", 100, 3).due(100, "bestCell", 50)
                .refused(STATE, "addStation", 100, 50, 1);
    }

    @Sentence(BEST)
    static void theMostStationsBeforeTheHighestCell() {
        Run x = new Run().stations(1, 60, 66).call("setHeight", 62, 100).due(62, "bestCell", 0);
        // With two high cells side by side each hides one station from the other: the flat ones see both.
        x.call("setHeight", 61, 99).due(0, "bestCell", 0);
        // With a third station upon the one, its other neighbour sees two of three, and (1, 4) sees all.
        x.call("addStation", 61, 0, 1).call("setHeight", 49, 1).due(49, "bestCell", 0);
    }

    @Sentence(BEST)
    static void ofSeveralTheHighest() {
        new Run().stations(1, 66).call("setHeight", 10, 1).due(10, "bestCell", 0).call("setHeight", 120, 2)
                .due(120, "bestCell", 0).call("setHeight", 5, 3).due(5, "bestCell", 0);
        new Run().stations(1, 66).call("setHeight", 143, 500).due(143, "bestCell", 0);
    }

    @Sentence(BEST)
    static void ofSeveralAsHighTheLowestNumber() {
        new Run().stations(1, 66).due(0, "bestCell", 0).call("setHeight", 90, 3).call("setHeight", 100, 3)
                .due(90, "bestCell", 0).call("setHeight", 89, 3).due(89, "bestCell", 0).call("setHeight", 143, 3)
                .due(89, "bestCell", 0);
    }

    @Sentence(BEST)
    static void theLineGoesFromTheNewStation() {
        // From (2, 1) to (0, 0) it goes over (1, 0), the other way round over (1, 1).
        new Run().stations(1, 0).call("setHeight", 14, 10).call("setHeight", 1, 9).due(1, "bestCell", 0);
        new Run().stations(1, 0).call("setHeight", 14, 10).call("setHeight", 13, 9).due(14, "bestCell", 0);
    }

    @Sentence(BEST)
    static void theMastsOfTheOthersCount() {
        // (2, 5) sees (0, 5) over 61 if its eye is at 20 at least, half way at 15.
        new Run().stations(1, 60, 61).call("setHeight", 61, 15).call("setHeight", 62, 10).call("setHeight", 48, 4)
                .due(48, "bestCell", 0).call("setMast", 0, 19).due(48, "bestCell", 0).call("setMast", 0, 20)
                .due(62, "bestCell", 0);
    }

    @Sentence({BEST, "Returns the cell."})
    static void onlyCellsOfTheTerrain() {
        // A wall of two columns lets no cell see both corners of the last row; from beyond the terrain nothing stands
        // in the way. Of the cells upon the wall (5, 1) is the first one to see a corner over the wall's edge.
        Run x = new Run();
        for (int y = 0; y < 12; y++) {
            x.call("setHeight", 12 * y + 5, 500).call("setHeight", 12 * y + 6, 500);
        }
        x.stations(1, 132, 143).due(17, "bestCell", 0);
    }

    @Sentence("Finds the best cell for another station")
    static void itChangesNothing() {
        Run.some().call("bestCell", 0).call("bestCell", 50).sameAs(Run.some());
        Run.full().call("bestCell", 50).sameAs(Run.full());
    }
}
