import java.util.regex.Matcher;
import java.util.regex.Pattern;

/** Promise 7: firstError. */
public final class Promise07FirstErrorTest extends PromiseTests {

    private static final String HEIGHT = "an item is a height (0 to 500 without leading zeros)";
    private static final String REPEAT =
            "optionally followed by \"*\" and a count from 1 to 144 (without leading zeros)";
    private static final String ERROR = "The buffer is read from left to right; a character is a syntax error if no"
            + " text begins with the characters before it and this character.";

    public static void main(String[] args) {
        runAll(Promise07FirstErrorTest.class);
    }

    private static void right(String... texts) {
        for (String text : texts) {
            new Run().text(text).due(text.length(), "firstError");
        }
    }

    private static void wrongAt(int index, String... texts) {
        for (String text : texts) {
            new Run().text(text).due(index, "firstError");
        }
    }

    @Sentence("the length of the buffer if there is none")
    static void anEmptyBufferHasNoError() {
        new Run().due(0, "firstError").call("append", '5').call("clearBuffer").due(0, "firstError");
    }

    @Sentence({"Finds the first syntax error of the buffer.", "the length of the buffer if there is none"})
    static void returnsTheLengthIfThereIsNoError() {
        right("5", "50", "500", "500*", "500*1", "500*14", "500*144", "500*144,", "500*144,0", "0*9,10*10,0");
    }

    @Sentence("the length of the buffer if there is none")
    static void aFullBufferWithoutError() {
        right(Run.FULL_TEXT, "0*144,0*144,0*144,0*144,0*144,0*144,0*99", "0,0,0,0,0,0,0,0,0,0,0,0,0,0,0,0,0,0,0,10");
        // A text may be longer than the buffer: one begins with these.
        right("1,2,3,4,5,6,7,8,9,0,1,2,3,4,5,6,7,8,9,0,", "1,2,3,4,5,6,7,8,9,0,1,2,3,4,5,6,7,8,9,0*");
    }

    @Sentence({HEIGHT, "Returns the index of the first character that is a syntax error"})
    static void heightsUpTo500() {
        right("0", "1", "9", "10", "99", "100", "499", "500", "51", "59", "60", "99");
        wrongAt(2, "501", "502", "509", "510", "550", "599", "600", "999");
        wrongAt(3, "5000", "1000", "4999", "4990");
    }

    @Sentence(HEIGHT)
    static void everyNumberOfUpToFourDigits() {
        for (int number = 0; number <= 1100; number++) {
            String text = Integer.toString(number);
            int firstThree = number > 999 ? number / 10 : number;
            int due = firstThree > 500 ? 2 : number > 999 ? 3 : text.length();
            new Run().text(text).due(due, "firstError");
        }
    }

    @Sentence(HEIGHT)
    static void heightsHaveNoLeadingZeros() {
        wrongAt(1, "00", "01", "09", "000", "0500");
        wrongAt(3, "5,00", "5,05", "0,01");
        right("0,0", "0*1", "10", "100", "10,0,100");
    }

    @Sentence(HEIGHT)
    static void aHeightIsNotMissing() {
        wrongAt(0, ",", "*", "*5", ",5");
        wrongAt(2, "5,,", "5,*", "5,*3");
    }

    @Sentence(REPEAT)
    static void countsUpTo144() {
        right("5*1", "5*9", "5*10", "5*99", "5*100", "5*139", "5*143", "5*144", "5*15", "5*20");
        wrongAt(4, "5*145", "5*146", "5*149", "5*150", "5*199", "5*200", "5*500", "5*999");
        wrongAt(5, "5*1440", "5*1000", "5*1111");
    }

    @Sentence(REPEAT)
    static void everyCountOfUpToFourDigits() {
        for (int number = 1; number <= 1500; number++) {
            String text = "0*" + number;
            int firstThree = number > 999 ? number / 10 : number;
            int due = firstThree > 144 ? 4 : number > 999 ? 5 : text.length();
            new Run().text(text).due(due, "firstError");
        }
    }

    @Sentence(REPEAT)
    static void countsBeginWith1AndHaveNoLeadingZeros() {
        wrongAt(2, "5*0", "5*00", "5*01", "5*0144");
        wrongAt(6, "5*3,5*0", "5*3,5*03");
    }

    @Sentence(REPEAT)
    static void onlyOneCountAndNoneMissing() {
        wrongAt(2, "5**", "5*,", "5**3", "5*,5");
        wrongAt(3, "5*3*", "5*3*2");
        wrongAt(7, "1*2,3*4*");
    }

    @Sentence("A text of heights is one or more items separated by commas")
    static void itemsAndCommas() {
        right("5,", "5,6", "5,6,", "5,6,7", "5*3,", "5*3,6", "5*3,6*4,");
        wrongAt(0, ",");
        wrongAt(2, "5,,", "5,,6");
        wrongAt(4, "5*3,,");
        wrongAt(1, "5;6", "5.6", "5+6", "5-6");
    }

    @Sentence({ERROR, "Returns the index of the first character that is a syntax error"})
    static void everyCharacterAtTheBeginning() {
        dueOnly("", "0123456789");
    }

    @Sentence(ERROR)
    static void everyCharacterInAHeight() {
        dueOnly("0", "*,");
        dueOnly("5", "0123456789*,");
        dueOnly("50", "0*,");
        dueOnly("49", "0123456789*,");
        dueOnly("51", "*,");
        dueOnly("500", "*,");
        dueOnly("100", "*,");
    }

    @Sentence(ERROR)
    static void everyCharacterInACount() {
        dueOnly("5*", "123456789");
        dueOnly("5*1", "0123456789,");
        dueOnly("5*14", "01234,");
        dueOnly("5*13", "0123456789,");
        dueOnly("5*15", ",");
        dueOnly("5*2", "0123456789,");
        dueOnly("5*144", ",");
        dueOnly("5*100", ",");
    }

    @Sentence(ERROR)
    static void everyCharacterBehindAComma() {
        dueOnly("0,", "0123456789");
        dueOnly("500*144,", "0123456789");
        dueOnly("5*1,6", "0123456789*,");
        dueOnly("5*1,0", "*,");
    }

    /** Of all characters these alone can follow. */
    private static void dueOnly(String before, String following) {
        for (int code = 33; code <= 126; code++) {
            int due = following.indexOf(code) >= 0 ? before.length() + 1 : before.length();
            new Run().text(before + (char) code).due(due, "firstError");
        }
    }

    private static final Pattern TEXT = text("(0|[1-9]\\d?|[1-4]\\d\\d|500)", "([1-9]\\d?|1[0-3]\\d|14[0-4])");

    private static Pattern text(String height, String repeat) {
        String item = height + "(\\*" + repeat + ")?";
        return Pattern.compile(item + "(," + item + ")*");
    }

    /** Whether some text begins with these characters: the pattern fits, or could with more of them. */
    private static boolean begins(String characters) {
        Matcher matcher = TEXT.matcher(characters);
        return matcher.matches() || matcher.hitEnd();
    }

    @Sentence({ERROR, HEIGHT, REPEAT, "A text of heights is one or more items separated by commas"})
    static void allShortBuffers() {
        String signs = "0145*,x";
        int buffers = 7 * 7 * 7 * 7 * 7;
        for (int number = 0; number < buffers; number++) {
            StringBuilder text = new StringBuilder();
            for (int rest = number; text.length() < 5; rest /= 7) {
                text.append(signs.charAt(rest % 7));
            }
            int due = 0;
            while (due < 5 && begins(text.substring(0, due + 1))) {
                due++;
            }
            new Run().text(text.toString()).due(due, "firstError");
        }
    }

    @Sentence("Returns the index of the first character that is a syntax error")
    static void theFirstOneOfSeveral() {
        wrongAt(0, "x,y", "xyz", "/5");
        wrongAt(1, "5x,00", "0123");
        wrongAt(6, "7,8*9,x,1,00", "7,8*9,,,");
    }

    @Sentence("Returns the index of the first character that is a syntax error")
    static void whatComesBehindAnErrorDoesNotMendIt() {
        wrongAt(0, "x5", ",5,6", "*5*3");
        wrongAt(2, "501,5", "5*0,5");
    }

    @Sentence("Returns the index of the first character that is a syntax error")
    static void anErrorAtTheLastPlaceOfAFullBuffer() {
        String nineAndThirty = "1,2,3,4,5,6,7,8,9,0,1,2,3,4,5,6,7,8,9,0";
        wrongAt(39, nineAndThirty + "0", nineAndThirty + "x");
        wrongAt(38, nineAndThirty.substring(0, 38) + ",0", nineAndThirty.substring(0, 38) + "x,");
        wrongAt(0, "x" + nineAndThirty);
    }

    @Sentence("Finds the first syntax error of the buffer.")
    static void itChangesNothing() {
        new Run().text("5*").due(2, "firstError").due(2, "firstError").sameAs(new Run().text("5*"));
        new Run().text("5*x3").due(2, "firstError").sameAs(new Run().text("5*x3"));
        Run.full().due(40, "firstError").sameAs(Run.full());
        new Run().text("5*").call("firstError").text("3,6").due(5, "firstError").due(4, "load", 0);
    }
}
