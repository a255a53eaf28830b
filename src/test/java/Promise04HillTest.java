/** Promise 4: hill. */
public final class Promise04HillTest extends PromiseTests {

    private static final String RAISES = "each cell whose distance d from the top, |difference of x| + |difference of"
            + " y|, is at most the radius, gets the height height - d * (height / (radius + 1)) (the division rounded"
            + " down) if it was lower.";

    public static void main(String[] args) {
        runAll(Promise04HillTest.class);
    }

    @Sentence("- `cell`: the top, 0 to 143")
    static void theFirstAndTheLastCell() {
        new Run().due(1, "hill", 0, 10, 0).due(1, "hill", 143, 20, 0).dueHeights(0, 10, 0).dueHeights(142, 0, 20)
                .due(30, "count", 4);
    }

    @Sentence("Throws `IndexOutOfBoundsException` if the cell does not exist")
    static void theCellBeforeTheFirst() {
        Run.some().refused(INDEX, "hill", -1, 500, 11).refused(INDEX, "hill", MIN, 500, 11);
    }

    @Sentence("Throws `IndexOutOfBoundsException` if the cell does not exist")
    static void theCellBehindTheLast() {
        Run.some().refused(INDEX, "hill", 144, 500, 11).refused(INDEX, "hill", MAX, 500, 11);
    }

    @Sentence("- `height`: 1 to 500")
    static void theLeastAndTheGreatestHeight() {
        new Run().due(1, "hill", 66, 1, 0).due(1, "count", 3).due(1, "hill", 66, 500, 0).due(500, "count", 3);
    }

    @Sentence("Throws `IllegalArgumentException` if height or radius is out of range")
    static void aHeightTooSmall() {
        Run.some().refused(ARGUMENT, "hill", 66, 0, 1).refused(ARGUMENT, "hill", 66, -1, 1)
                .refused(ARGUMENT, "hill", 66, MIN, 1);
    }

    @Sentence("Throws `IllegalArgumentException` if height or radius is out of range")
    static void aHeightTooLarge() {
        Run.some().refused(ARGUMENT, "hill", 66, 501, 1).refused(ARGUMENT, "hill", 66, MAX, 1);
    }

    @Sentence("- `radius`: 0 to 11")
    static void theLeastAndTheGreatestRadius() {
        new Run().due(1, "hill", 66, 12, 0).due(12, "count", 4);
        // 1 + 2 + .. + 12 cells lie within 11 of a corner, the farthest of them on the diagonal between two corners.
        new Run().due(78, "hill", 0, 12, 11).dueHeights(0, 12, 11, 10, 9, 8, 7, 6, 5, 4, 3, 2, 1, 11)
                .dueHeights(132, 1, 0).dueHeights(22, 1, 0);
    }

    @Sentence("Throws `IllegalArgumentException` if height or radius is out of range")
    static void aRadiusTooSmall() {
        Run.some().refused(ARGUMENT, "hill", 66, 100, -1).refused(ARGUMENT, "hill", 66, 100, MIN);
    }

    @Sentence("Throws `IllegalArgumentException` if height or radius is out of range")
    static void aRadiusTooLarge() {
        Run.some().refused(ARGUMENT, "hill", 66, 100, 12).refused(ARGUMENT, "hill", 66, 100, MAX);
    }

    @Sentence("Throws `IllegalArgumentException` if height or radius is out of range")
    static void neitherHeightNorRadiusIsRight() {
        Run.some().refused(ARGUMENT, "hill", 66, 0, 12).refused(ARGUMENT, "hill", 66, 501, -1);
    }

    @Sentence("If several exceptions apply, the one that is named first in the throws clause is thrown.")
    static void theCellIsLookedAtFirst() {
        Run.some().refused(INDEX, "hill", 144, 0, 1).refused(INDEX, "hill", -1, 1, 12)
                .refused(INDEX, "hill", 144, 501, -1).refused(INDEX, "hill", MIN, MIN, MIN);
    }

    @Sentence(RAISES)
    static void theDistanceIsAtMostTheRadius() {
        // The middle of row 5, two cells to each side and no more; nor (6 + 2, 5 + 1), at a distance of 3.
        new Run().due(13, "hill", 66, 30, 2).dueHeights(63, 0, 10, 20, 30, 20, 10, 0)
                .dueHeights(52, 0, 10, 20, 10, 0).dueHeights(41, 0, 10, 0).dueHeights(30, 0)
                .dueHeights(76, 0, 10, 20, 10, 0).dueHeights(89, 0, 10, 0).dueHeights(102, 0);
    }

    @Sentence(RAISES)
    static void theDivisionIsRoundedDown() {
        // 100 / 3 is 33, so that the hill ends with 34; rounded after the product it would end with 33.
        new Run().due(13, "hill", 66, 100, 2).dueHeights(63, 0, 34, 67, 100, 67, 34, 0);
        // 11 / 12 is 0: all is as high as the top.
        new Run().due(78, "hill", 143, 11, 11).dueHeights(132, 11, 11).dueHeights(143, 11).due(78 * 11, "count", 4);
        // 500 / 12 is 41.
        new Run().call("hill", 0, 500, 11).dueHeights(10, 90, 49);
        new Run().due(5, "hill", 66, 1, 1).due(5, "count", 4);
    }

    @Sentence(RAISES)
    static void aHillEndsAtTheEdgesOfTheTerrain() {
        // Column 11 and column 0 of the next row are no neighbours, nor are the first and the last row.
        new Run().due(4, "hill", 23, 10, 1).dueHeights(22, 5, 10, 0).dueHeights(11, 5, 0).dueHeights(35, 5, 0);
        new Run().due(4, "hill", 24, 10, 1).dueHeights(23, 0, 10, 5).dueHeights(12, 5).dueHeights(36, 5);
        new Run().due(4, "hill", 5, 10, 1).dueHeights(4, 5, 10, 5).dueHeights(17, 5).due(30 - 5, "count", 4)
                .dueHeights(137, 0);
        new Run().due(4, "hill", 137, 10, 1).dueHeights(136, 5, 10, 5).dueHeights(125, 5).dueHeights(5, 0);
        new Run().due(3, "hill", 0, 10, 1).due(3, "hill", 11, 10, 1).due(3, "hill", 132, 10, 1)
                .due(3, "hill", 143, 10, 1);
    }

    @Sentence(RAISES)
    static void onlyALowerCellIsChanged() {
        new Run().call("setHeight", 65, 24).call("setHeight", 66, 50).call("setHeight", 67, 25)
                .call("setHeight", 54, 26)
                .due(2, "hill", 66, 50, 1).dueHeights(65, 25, 50, 25).dueHeights(54, 26).dueHeights(78, 25);
    }

    @Sentence("Returns how many cells became higher.")
    static void returnsNoneIfNoneBecameHigher() {
        new Run().due(5, "hill", 66, 50, 1).due(0, "hill", 66, 50, 1).due(0, "hill", 66, 49, 1)
                .due(5, "hill", 66, 52, 1).due(1, "hill", 66, 53, 0);
        new Run().text("500*144").call("load", 0).due(0, "hill", 66, 500, 11).due(0, "hill", 0, 1, 0)
                .due(72000, "count", 4);
    }

    @Sentence("Returns how many cells became higher.")
    static void returnsAllOfAWideHill() {
        // All but those farther than 11 of the middle (6, 6): one at (0, 0), at a distance of 12.
        new Run().due(143, "hill", 78, 24, 11).dueHeights(0, 0, 2).dueHeights(143, 24 - 10 * 2);
    }
}
