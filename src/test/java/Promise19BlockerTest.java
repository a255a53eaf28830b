import java.math.BigDecimal;
import java.math.RoundingMode;

/** Promise 19: blocker. */
public final class Promise19BlockerTest extends PromiseTests {

    private static final String NO_STATION = "Throws `IndexOutOfBoundsException` if one of the stations does not exist";
    private static final String SAME = "Throws `IllegalArgumentException` if both are the same";
    private static final String RETURNS = "Returns the cell that blocks it; NONE if it is not blocked.";
    private static final String LINE = "The cells from a cell along a step (dx, dy), which are two integers, at"
            + " least one of which is not 0, are computed like this: let m be the greater one of |dx| and |dy|.";
    private static final String ROUNDED = "The cell number k, for k = 1, 2, 3 and so on, is (x + r(k * dx), y + r(k"
            + " * dy)), where r(v) is v / m rounded to the nearest integer, halves being rounded away from zero.";
    private static final String BLOCKED = "The line of sight is blocked if for some k from 1 to m - 1 the height of"
            + " cell number k, times m, is greater than (eye of the one) * m + (eye of the other - eye of the one) *"
            + " k.";
    private static final String LOWEST = "The lowest such k gives the cell that blocks it.";

    public static void main(String[] args) {
        runAll(Promise19BlockerTest.class);
    }

    private static Run pair(int one, int other, int oneMast, int otherMast) {
        return new Run().call("addStation", one, oneMast, 1).call("addStation", other, otherMast, 1);
    }

    // ---- the arguments

    @Sentence({"- `from`: number of a station", "- `to`: number of another station"})
    static void theFirstAndTheLastStation() {
        Run.eightStations().due(NONE, "blocker", 0, 7).due(NONE, "blocker", 7, 0).call("setHeight", 13, 1)
                .due(13, "blocker", 0, 7).due(13, "blocker", 7, 0);
    }

    @Sentence(NO_STATION)
    static void theStationBeforeTheFirst() {
        Run.some().refused(INDEX, "blocker", -1, 0).refused(INDEX, "blocker", 0, -1).refused(INDEX, "blocker", MIN, 0)
                .refused(INDEX, "blocker", 0, MIN);
    }

    @Sentence(NO_STATION)
    static void theStationBehindTheLast() {
        new Run().refused(INDEX, "blocker", 0, 1);
        Run.some().refused(INDEX, "blocker", 3, 0).refused(INDEX, "blocker", 0, 3).refused(INDEX, "blocker", MAX, 0)
                .refused(INDEX, "blocker", 0, MAX);
        Run.eightStations().refused(INDEX, "blocker", 8, 0).refused(INDEX, "blocker", 0, 8);
    }

    @Sentence(SAME)
    static void bothAreTheSame() {
        Run.some().refused(ARGUMENT, "blocker", 0, 0).refused(ARGUMENT, "blocker", 2, 2);
    }

    @Sentence("If several exceptions apply, the one that is named first in the throws clause is thrown.")
    static void theSameStationThatDoesNotExist() {
        new Run().refused(INDEX, "blocker", 0, 0);
        Run.some().refused(INDEX, "blocker", 3, 3).refused(INDEX, "blocker", -1, -1);
    }

    // ---- the cells of a line

    private static int rounded(int v, int m) {
        return new BigDecimal(v).divide(new BigDecimal(m), 0, RoundingMode.HALF_UP).intValueExact();
    }

    /** Each cell of the line, one after the other, must block it; all others together must not. */
    private static void dueLine(int one, int other, int... line) {
        for (int cell : line) {
            pair(one, other, 0, 0).call("setHeight", cell, 1).due(cell, "blocker", 0, 1);
        }
        Run x = pair(one, other, 0, 0);
        for (int cell = 0; cell < 144; cell++) {
            boolean onIt = cell == one || cell == other;
            for (int part : line) {
                onIt |= part == cell;
            }
            if (!onIt) {
                x.call("setHeight", cell, 500);
            }
        }
        x.due(NONE, "blocker", 0, 1);
    }

    @Sentence({LINE, ROUNDED})
    static void straightAndDiagonalLines() {
        dueLine(65, 69, 66, 67, 68);
        dueLine(65, 61, 64, 63, 62);
        dueLine(65, 101, 77, 89);
        dueLine(65, 29, 53, 41);
        dueLine(65, 104, 78, 91);
        dueLine(65, 26, 52, 39);
        dueLine(65, 98, 76, 87);
        dueLine(65, 32, 54, 43);
    }

    @Sentence(ROUNDED)
    static void halvesAreRoundedAwayFromZero() {
        // The steps (2, 1) and its like go by a half in the middle: on to the other row or column.
        dueLine(65, 79, 78);
        dueLine(65, 55, 54);
        dueLine(65, 75, 76);
        dueLine(65, 51, 52);
        dueLine(65, 90, 78);
        dueLine(65, 88, 76);
        dueLine(65, 42, 54);
        dueLine(65, 40, 52);
        // The step (4, 3): 3 / 4 is 1, 6 / 4 is 2, 9 / 4 is 2; and the same to the other sides.
        dueLine(65, 105, 78, 91, 92);
        dueLine(65, 33, 54, 43, 44);
        dueLine(65, 97, 76, 87, 86);
        dueLine(65, 25, 52, 39, 38);
        // The step (10, 5): every other one is a half.
        dueLine(0, 70, 13, 14, 27, 28, 41, 42, 55, 56, 69);
        dueLine(70, 0, 57, 56, 43, 42, 29, 28, 15, 14, 1);
    }

    @Sentence(ROUNDED)
    static void othersAreRoundedToTheNearest() {
        // The step (3, 1): 1 / 3 is 0, 2 / 3 is 1; the step (4, 1): 1 / 4 is 0, 2 / 4 and 3 / 4 are 1.
        dueLine(65, 80, 66, 79);
        dueLine(65, 56, 66, 55);
        dueLine(65, 74, 64, 75);
        dueLine(65, 50, 64, 51);
        dueLine(65, 102, 77, 90);
        dueLine(65, 100, 77, 88);
        dueLine(65, 30, 53, 42);
        dueLine(65, 28, 53, 40);
        dueLine(65, 81, 66, 79, 80);
        dueLine(65, 57, 66, 55, 56);
    }

    @Sentence({LINE, ROUNDED})
    static void linesFromACornerAndFromTheMiddleToEveryCell() {
        int[] places = {0, 143, 11, 66};
        for (int place : places) {
            for (int other = 0; other < 144; other++) {
                if (other != place) {
                    dueLine(place, other, cellsBetween(place, other));
                }
            }
        }
    }

    private static int[] cellsBetween(int one, int other) {
        int dx = other % 12 - one % 12;
        int dy = other / 12 - one / 12;
        int m = Math.max(Math.abs(dx), Math.abs(dy));
        int[] cells = new int[m - 1];
        for (int k = 1; k < m; k++) {
            cells[k - 1] = 12 * (one / 12 + rounded(k * dy, m)) + one % 12 + rounded(k * dx, m);
        }
        return cells;
    }

    @Sentence({"Let (dx, dy) lead from one station to another one, and m be as above.",
        "Returns what blocks a line of sight."})
    static void theWayBackMayGoOverOtherCells() {
        pair(0, 14, 0, 0).call("setHeight", 13, 1).due(13, "blocker", 0, 1).due(NONE, "blocker", 1, 0);
        pair(0, 14, 0, 0).call("setHeight", 1, 1).due(NONE, "blocker", 0, 1).due(1, "blocker", 1, 0);
    }

    // ---- what blocks

    @Sentence({BLOCKED, RETURNS})
    static void aCellAsHighAsTheLineDoesNotBlock() {
        pair(60, 64, 10, 10).call("setHeight", 62, 10).due(NONE, "blocker", 0, 1).call("setHeight", 62, 11)
                .due(62, "blocker", 0, 1).due(62, "blocker", 1, 0);
        pair(60, 62, 0, 0).call("setHeight", 61, 0).due(NONE, "blocker", 0, 1).call("setHeight", 61, 1)
                .due(61, "blocker", 0, 1);
        pair(60, 62, 50, 50).call("setHeight", 60, 450).call("setHeight", 62, 450).call("setHeight", 61, 500)
                .due(NONE, "blocker", 0, 1).call("setHeight", 62, 449).due(61, "blocker", 0, 1)
                .due(61, "blocker", 1, 0);
    }

    @Sentence(BLOCKED)
    static void theLineRisesAndFallsInEqualParts() {
        pair(60, 63, 0, 30).call("setHeight", 61, 10).call("setHeight", 62, 20).due(NONE, "blocker", 0, 1)
                .due(NONE, "blocker", 1, 0).call("setHeight", 62, 21).due(62, "blocker", 0, 1).due(62, "blocker", 1, 0)
                .call("setHeight", 62, 20).call("setHeight", 61, 11).due(61, "blocker", 0, 1).due(61, "blocker", 1, 0);
    }

    @Sentence(BLOCKED)
    static void nothingIsRounded() {
        // Half way between 1 and 2 the line is at 1 1/2, between 0 and 1 at 1/2.
        pair(60, 62, 1, 2).call("setHeight", 61, 1).due(NONE, "blocker", 0, 1).due(NONE, "blocker", 1, 0)
                .call("setHeight", 61, 2).due(61, "blocker", 0, 1).due(61, "blocker", 1, 0);
        pair(60, 62, 0, 1).call("setHeight", 61, 1).due(61, "blocker", 0, 1).due(61, "blocker", 1, 0);
        // A third of 32 is less than 11, a third of 33 is not.
        pair(60, 63, 0, 32).call("setHeight", 61, 11).due(61, "blocker", 0, 1).due(61, "blocker", 1, 0)
                .call("setMast", 1, 33).due(NONE, "blocker", 0, 1).due(NONE, "blocker", 1, 0);
        // Over eleven cells: 10 of 11 parts of 50 are 45 5/11.
        pair(60, 71, 0, 50).call("setHeight", 70, 45).due(NONE, "blocker", 0, 1).call("setHeight", 70, 46)
                .due(70, "blocker", 0, 1).call("setHeight", 70, 0).call("setHeight", 61, 4).due(NONE, "blocker", 0, 1)
                .call("setHeight", 61, 5).due(61, "blocker", 0, 1);
    }

    @Sentence({BLOCKED, RETURNS})
    static void neighboursAreNeverBlocked() {
        int[] neighbours = {52, 53, 54, 64, 66, 76, 77, 78};
        for (int other : neighbours) {
            Run x = pair(65, other, 0, 0);
            for (int cell : neighbours) {
                x.call("setHeight", cell, 500);
            }
            x.due(NONE, "blocker", 0, 1).due(NONE, "blocker", 1, 0).call("setHeight", 65, 500)
                    .call("setHeight", other, 0)
                    .due(NONE, "blocker", 0, 1).due(NONE, "blocker", 1, 0);
        }
    }

    @Sentence(BLOCKED)
    static void theCellsOfTheTwoAndThoseBeyondDoNotBlock() {
        pair(61, 64, 0, 0).call("setHeight", 60, 500).call("setHeight", 65, 500).due(NONE, "blocker", 0, 1)
                .due(NONE, "blocker", 1, 0);
        pair(61, 64, 0, 0).call("setHeight", 61, 500).due(NONE, "blocker", 0, 1).due(NONE, "blocker", 1, 0)
                .call("setHeight", 64, 500).due(NONE, "blocker", 0, 1).due(NONE, "blocker", 1, 0);
    }

    @Sentence({LOWEST, RETURNS})
    static void theFirstOneOfSeveral() {
        pair(60, 65, 0, 0).call("setHeight", 61, 1).call("setHeight", 62, 500).call("setHeight", 64, 2)
                .due(61, "blocker", 0, 1).due(64, "blocker", 1, 0);
        pair(0, 143, 0, 0).call("setHeight", 52, 5).call("setHeight", 91, 500).due(52, "blocker", 0, 1)
                .due(91, "blocker", 1, 0);
        Run wall = new Run().text("500*144").call("load", 0).call("setHeight", 0, 0).call("setHeight", 143, 0);
        wall.stations(2, 0, 143).due(13, "blocker", 0, 1).due(130, "blocker", 1, 0);
    }

    @Sentence(RETURNS)
    static void theOutermostCells() {
        // No line goes over a corner but to end there, so that 1 and 142 are the outermost cells that can block one.
        pair(0, 2, 0, 0).call("setHeight", 1, 1).due(1, "blocker", 0, 1);
        pair(141, 143, 0, 0).call("setHeight", 142, 1).due(142, "blocker", 0, 1);
        pair(12, 1, 0, 0).call("setHeight", 0, 500).due(NONE, "blocker", 0, 1);
        pair(142, 131, 0, 0).call("setHeight", 143, 500).due(NONE, "blocker", 0, 1);
    }

    @Sentence("Returns what blocks a line of sight.")
    static void otherStationsOnTheLineDoNotBlock() {
        new Run().call("addStation", 60, 0, 1).call("addStation", 62, 0, 1).call("addStation", 61, 50, 1)
                .due(NONE, "blocker", 0, 1).sameAs(new Run().call("addStation", 60, 0, 1).call("addStation", 62, 0, 1)
                .call("addStation", 61, 50, 1));
    }

    @Sentence("Returns what blocks a line of sight.")
    static void cloudsAndNightDoNotBlock() {
        pair(60, 64, 0, 0).call("addCloud", 0, 143, 6, 17).due(NONE, "blocker", 0, 1).due(NONE, "blocker", 1, 0);
    }
}
