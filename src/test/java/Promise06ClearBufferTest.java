/** Promise 6: clearBuffer. */
public final class Promise06ClearBufferTest extends PromiseTests {

    public static void main(String[] args) {
        runAll(Promise06ClearBufferTest.class);
    }

    @Sentence("Returns the length that it had.")
    static void anEmptyBuffer() {
        new Run().due(0, "clearBuffer").due(0, "clearBuffer");
        new Run().text("5").call("load", 0).due(0, "clearBuffer");
    }

    @Sentence("Returns the length that it had.")
    static void everyLengthUpToTheFullBuffer() {
        for (int length = 1; length <= 40; length++) {
            new Run().text(Run.FULL_TEXT.substring(0, length)).due(length, "clearBuffer").due(0, "clearBuffer");
        }
    }

    @Sentence("Clears the buffer.")
    static void theBufferIsEmptyThen() {
        new Run().text(Run.FULL_TEXT).call("clearBuffer").sameAs(new Run());
        new Run().text("x").due(0, "firstError").call("clearBuffer").due(0, "firstError").refused(ARGUMENT, "load", 0)
                .due(1, "append", '7').due(1, "firstError").due(1, "load", 143).dueHeights(142, 0, 7);
    }

    @Sentence("Clears the buffer.")
    static void nothingOfTheOldTextComesBack() {
        new Run().text("500*14").call("clearBuffer").text("3").due(1, "load", 0).due(3, "count", 4);
        new Run().text("500*1").call("firstError").call("clearBuffer").text("4").due(2, "append", '4')
                .due(1, "load", 0).due(44, "count", 4);
    }

    @Sentence("Clears the buffer.")
    static void allElseStays() {
        Run x = Run.some();
        x.due(6, "clearBuffer").dueCounts(3, 2, 3, 40, 127, 1, 4, 12, 44);
    }
}
