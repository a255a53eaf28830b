/** Promise 8: load. */
public final class Promise08LoadTest extends PromiseTests {

    private static final String NO_CELL = "Throws `IndexOutOfBoundsException` if the cell does not exist";
    private static final String NO_TEXT = "Throws `IllegalArgumentException` if the buffer is not a complete text";
    private static final String NO_ROOM =
            "Throws `IllegalStateException` if there are not so many cells from the first one on";
    private static final String SETS =
            "Sets the heights of consecutive cells by the text in the buffer, and clears the buffer.";

    public static void main(String[] args) {
        runAll(Promise08LoadTest.class);
    }

    @Sentence("- `cell`: the first cell, 0 to 143")
    static void theFirstAndTheLastCell() {
        new Run().text("7").due(1, "load", 0).text("8").due(1, "load", 143).dueHeights(0, 7, 0).dueHeights(142, 0, 8);
    }

    @Sentence(NO_CELL)
    static void theCellBeforeTheFirst() {
        Run.some().refused(INDEX, "load", -1).refused(INDEX, "load", MIN);
    }

    @Sentence(NO_CELL)
    static void theCellBehindTheLast() {
        Run.some().refused(INDEX, "load", 144).refused(INDEX, "load", MAX);
    }

    @Sentence({NO_TEXT, "A text of heights is one or more items separated by commas"})
    static void anEmptyBufferIsNoText() {
        new Run().refused(ARGUMENT, "load", 0).text("5").call("load", 0).refused(ARGUMENT, "load", 0);
    }

    @Sentence(NO_TEXT)
    static void halfAnItemIsNoText() {
        String[] texts = {"5*", "5,", "500*144,", "5,6*", "5,6,", "5*3,", "1,2,3,4,5,6,7,8,9,0,1,2,3,4,5,6,7,8,9,0,",
            "1,2,3,4,5,6,7,8,9,0,1,2,3,4,5,6,7,8,9,0*"};
        for (String text : texts) {
            new Run().text(text).refused(ARGUMENT, "load", 0).due(text.length(), "clearBuffer");
        }
    }

    @Sentence(NO_TEXT)
    static void aTextWithAnErrorIsNoText() {
        String[] texts = {"x", "5x", "5*3x", "5,x", "x5", "501", "600", "1000", "00", "01", "5*0", "5*145", "5*03",
            "5*3*2", ",", ",5", "5,,6", "*3", "5**3", "5*3,,", "5_5",
            "1,2,3,4,5,6,7,8,9,0,1,2,3,4,5,6,7,8,9,00"};
        for (String text : texts) {
            new Run().text(text).refused(ARGUMENT, "load", 0).due(text.length(), "clearBuffer");
        }
    }

    @Sentence({NO_TEXT, NO_ROOM})
    static void allShortBuffers() {
        String signs = "0145*,x";
        for (int length = 1; length <= 3; length++) {
            for (int number = 0; number < Math.pow(7, length); number++) {
                StringBuilder text = new StringBuilder();
                for (int rest = number; text.length() < length; rest /= 7) {
                    text.append(signs.charAt(rest % 7));
                }
                dueLoaded(text.toString());
            }
        }
    }

    /** On the last cell but one there is room for two. */
    private static void dueLoaded(String text) {
        Run x = new Run().text(text);
        if (!text.matches("([0145]|[145][0145]|[14][0145][0145]|500)(,[0145]|\\*[145])?")) {
            x.refused(ARGUMENT, "load", 142);
        } else if (text.contains("*4") || text.contains("*5")) {
            x.refused(STATE, "load", 142);
        } else {
            x.due(text.contains(",") ? 2 : 1, "load", 142);
        }
    }

    @Sentence({"It stands for as many cells of that height (one without the count).",
        "Returns how many cells were set."})
    static void countsOneAndMore() {
        new Run().text("9").due(1, "load", 5).dueHeights(4, 0, 9, 0);
        new Run().text("9*1").due(1, "load", 5).dueHeights(4, 0, 9, 0);
        new Run().text("9*2").due(2, "load", 5).dueHeights(4, 0, 9, 9, 0);
        new Run().text("9*10").due(10, "load", 5).due(90, "count", 4).dueHeights(4, 0, 9).dueHeights(14, 9, 0);
        new Run().text("500*143").due(143, "load", 0).due(71500, "count", 4).dueHeights(142, 500, 0);
        new Run().text("500*144").due(144, "load", 0).due(72000, "count", 4);
    }

    @Sentence({SETS, "Returns how many cells were set."})
    static void severalItems() {
        new Run().call("setHeight", 9, 99).call("setHeight", 14, 88).call("setHeight", 17, 77)
                .text("12,500*3,0,7*2").due(7, "load", 10).dueHeights(9, 99, 12, 500, 500, 500, 0, 7, 7, 77);
        new Run().text("0*2,1,0,2*1").due(5, "load", 139).dueHeights(138, 0, 0, 0, 1, 0, 2);
    }

    @Sentence({SETS, "The buffer has at most 40 characters."})
    static void aFullBuffer() {
        new Run().text(Run.FULL_TEXT).due(20, "load", 124)
                .dueHeights(123, 0, 1, 2, 3, 4, 5, 6, 7, 8, 9, 0, 1, 2, 3, 4, 5, 6, 7, 8, 9, 50);
    }

    @Sentence(SETS)
    static void aHeightMayBecomeLowerOrStay() {
        new Run().text("500*144").call("load", 0).text("0,500,1").due(3, "load", 70)
                .dueHeights(69, 500, 0, 500, 1, 500);
    }

    @Sentence(SETS)
    static void theCellsGoOnInTheNextRow() {
        new Run().text("4*3").due(3, "load", 10).stations(1, 11, 12).due(4, "station", 0, 3).due(4, "station", 1, 3)
                .dueHeights(9, 0, 4, 4, 4, 0);
    }

    @Sentence({SETS, "Returns how many cells were set."})
    static void theBufferIsEmptyThen() {
        new Run().text("7*2").call("load", 0).due(0, "firstError").due(0, "clearBuffer").refused(ARGUMENT, "load", 0)
                .due(1, "append", '3').due(1, "load", 2).dueHeights(0, 7, 7, 3, 0);
    }

    @Sentence(NO_ROOM)
    static void exactlySoManyCellsAndOneTooMany() {
        new Run().text("5*4").refused(STATE, "load", 141).due(4, "load", 140).dueHeights(139, 0, 5, 5, 5, 5);
        new Run().text("5,5").refused(STATE, "load", 143).due(2, "load", 142);
        new Run().text("5*2").refused(STATE, "load", 143).due(2, "load", 142);
        new Run().text("1*144").refused(STATE, "load", 1).refused(STATE, "load", 143).due(144, "load", 0);
        new Run().text("1*143").refused(STATE, "load", 2).due(143, "load", 1).dueHeights(0, 0, 1);
    }

    @Sentence(NO_ROOM)
    static void moreThanTheWholeTerrain() {
        new Run().text("1*144,0").refused(STATE, "load", 0).refused(STATE, "load", 143);
        new Run().text("1*143,2").refused(STATE, "load", 1).due(144, "load", 0).dueHeights(142, 1, 2);
        new Run().text("0*144,0*144,0*144,0*144,0*144,0*144,0*99").refused(STATE, "load", 0);
    }

    @Sentence({NO_ROOM, "A call that throws an exception changes nothing."})
    static void whatWasRefusedCanBeLoadedElsewhere() {
        new Run().text("5*4").refused(STATE, "load", 142).due(4, "load", 100);
        new Run().text("5*4").refused(INDEX, "load", 144).due(4, "load", 100);
        new Run().text("5*").refused(ARGUMENT, "load", 100).due(3, "append", '4').due(4, "load", 100);
    }

    @Sentence("If several exceptions apply, the one that is named first in the throws clause is thrown.")
    static void noCellForNoTextOrTooLongATextOrAnyText() {
        new Run().refused(INDEX, "load", -1).refused(INDEX, "load", 144);
        new Run().text("5*").refused(INDEX, "load", -1).refused(INDEX, "load", 144);
        new Run().text("1*144,0").refused(INDEX, "load", -1).refused(INDEX, "load", 144);
    }

    @Sentence("If several exceptions apply, the one that is named first in the throws clause is thrown.")
    static void noTextThatWouldBeTooLongToo() {
        new Run().text("5*9,").refused(ARGUMENT, "load", 143);
        new Run().text("5*9*").refused(ARGUMENT, "load", 143);
        new Run().text("5*144,5*144x").refused(ARGUMENT, "load", 0);
    }

    @Sentence("Messages that have been sent keep their routes, whatever is changed afterwards.")
    static void messagesAndStationsStay() {
        Run x = Run.some().call("clearBuffer").text("300*144").due(144, "load", 0);
        x.dueCounts(3, 2, 3, 300, 43200, 1, 6, 12, 44).dueMessage(0, 0, 1, 3, 6, 9, 1).dueHop(0, 0, 0, 1, 6);
        x.due(310, "station", 0, 3);
    }
}
