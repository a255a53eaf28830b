/** Promise 5: append. */
public final class Promise05AppendTest extends PromiseTests {

    private static final String NINE_AND_THIRTY = Run.FULL_TEXT.substring(0, 39);

    public static void main(String[] args) {
        runAll(Promise05AppendTest.class);
    }

    @Sentence({"Appends a character to the buffer.", "- `code`: the character code, 33 to 126"})
    static void theLeastAndTheGreatestCode() {
        new Run().due(1, "append", 33).due(2, "append", 126).due(0, "firstError");
        Check.same("the digest tells codes 33 and 34 apart", "false", "" + (digestWith(33) == digestWith(34)));
        Check.same("the digest tells codes 125 and 126 apart", "false", "" + (digestWith(125) == digestWith(126)));
    }

    private static long digestWith(int code) {
        MirrorTelegraph x = new MirrorTelegraph();
        x.append(code);
        return x.digest();
    }

    @Sentence("- `code`: the character code, 33 to 126")
    static void everyCodeBetweenThemIsKept() {
        for (int code = 33; code <= 126; code++) {
            MirrorTelegraph x = new MirrorTelegraph();
            x.append(code);
            MirrorTelegraph empty = new MirrorTelegraph();
            // The last two values of the digest are the length and the one code, instead of the length 0.
            long due = 31 * (empty.digest() + 1) + code;
            Check.same("digest() with code " + code, Long.toString(due), Long.toString(x.digest()));
        }
    }

    @Sentence("Throws `IllegalArgumentException` if code is not 33 to 126")
    static void aCodeTooSmall() {
        Run.some().refused(ARGUMENT, "append", 32).refused(ARGUMENT, "append", 0).refused(ARGUMENT, "append", -1)
                .refused(ARGUMENT, "append", '5' - 256).refused(ARGUMENT, "append", MIN);
    }

    @Sentence("Throws `IllegalArgumentException` if code is not 33 to 126")
    static void aCodeTooLarge() {
        Run.some().refused(ARGUMENT, "append", 127).refused(ARGUMENT, "append", '5' + 256)
                .refused(ARGUMENT, "append", '5' + 65536).refused(ARGUMENT, "append", MAX);
    }

    @Sentence({"The buffer has at most 40 characters.", "Returns the new length of the buffer."})
    static void returnsOneToForty() {
        Run x = new Run();
        for (int length = 1; length <= 40; length++) {
            x.due(length, "append", 'x');
        }
    }

    @Sentence({"The buffer has at most 40 characters.",
        "Throws `IllegalStateException` if the buffer has 40 characters"})
    static void theFortiethHasRoomAndTheNextHasNot() {
        new Run().text(NINE_AND_THIRTY).due(40, "append", '0').refused(STATE, "append", '0')
                .refused(STATE, "append", 33).refused(STATE, "append", 126).due(40, "clearBuffer");
    }

    @Sentence("Throws `IllegalStateException` if the buffer has 40 characters")
    static void thereIsRoomAgainWhenTheBufferWasCleared() {
        new Run().text(Run.FULL_TEXT).refused(STATE, "append", '0').call("clearBuffer").due(1, "append", '0');
        new Run().text(Run.FULL_TEXT).refused(STATE, "append", '0').call("load", 0).due(1, "append", '0');
        new Run().text(NINE_AND_THIRTY).call("firstError").due(40, "append", '1');
    }

    @Sentence("If several exceptions apply, the one that is named first in the throws clause is thrown.")
    static void aWrongCodeForAFullBuffer() {
        new Run().text(Run.FULL_TEXT).refused(ARGUMENT, "append", 32).refused(ARGUMENT, "append", 127)
                .refused(ARGUMENT, "append", MIN).refused(ARGUMENT, "append", MAX);
    }
}
