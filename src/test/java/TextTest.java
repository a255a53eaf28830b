/** Promises 5 to 8: append, clearBuffer, firstError, load. */
public final class TextTest {

    public static void main(String[] args) {
        appendAndClear();
        refusedCodes();
        rightTexts();
        beginningsOfTexts();
        syntaxErrors();
        errorsInFullBuffers();
        loadItems();
        loadToTheLastCell();
        loadOverHeights();
        refusedLoads();
        Check.end();
    }

    private static MirrorTelegraph with(String text) {
        MirrorTelegraph x = new MirrorTelegraph();
        Check.append(x, text);
        return x;
    }

    private static void appendAndClear() {
        MirrorTelegraph x = new MirrorTelegraph();
        Check.due("append(33)", 1, () -> x.append(33));
        Check.due("append(126)", 2, () -> x.append(126));
        Check.due("clearBuffer()", 2, () -> x.clearBuffer());
        Check.due("clearBuffer() again", 0, () -> x.clearBuffer());
        for (int i = 1; i <= 40; i++) {
            int length = i;
            Check.due("append number " + i, length, () -> x.append('1'));
        }
        Check.refusedWithoutTrace(x, "append number 41", Check.STATE, () -> x.append('1'));
        Check.refusedWithoutTrace(x, "append number 41 of a wrong code", Check.ARGUMENT, () -> x.append(127));
        Check.due("clearBuffer() of the full one", 40, () -> x.clearBuffer());
        Check.due("append after it", 1, () -> x.append('1'));
    }

    private static void refusedCodes() {
        MirrorTelegraph x = with("5");
        int[] codes = {32, 127, 0, -1, 256 + 53, 65536 + 53, Integer.MIN_VALUE, Integer.MAX_VALUE};
        for (int code : codes) {
            Check.refusedWithoutTrace(x, "append(" + code + ")", Check.ARGUMENT, () -> x.append(code));
        }
    }

    private static void dueError(String text, int index) {
        MirrorTelegraph x = with(text);
        long before = x.digest();
        Check.due("firstError of " + text, index, () -> x.firstError());
        Check.due("firstError of " + text + " changes nothing", before, () -> x.digest());
    }

    private static void dueCells(String text, int cells) {
        dueError(text, text.length());
        MirrorTelegraph x = with(text);
        Check.due("load(0) of " + text, cells, () -> x.load(0));
        Check.due("the buffer after load of " + text, 0, () -> x.clearBuffer());
    }

    private static void rightTexts() {
        dueCells("0", 1);
        dueCells("9", 1);
        dueCells("10", 1);
        dueCells("99", 1);
        dueCells("100", 1);
        dueCells("499", 1);
        dueCells("500", 1);
        dueCells("0*1", 1);
        dueCells("0*9", 9);
        dueCells("0*10", 10);
        dueCells("500*99", 99);
        dueCells("500*144", 144);
        dueCells("500*139", 139);
        dueCells("0,0", 2);
        dueCells("1*2,3,4*5", 8);
        dueCells("0,0,0,0,0,0,0,0,0,0,0,0,0,0,0,0,0,0,0,0", 20);
        dueCells("0,0,0,0,0,0,0,0,0,0,0,0,0,0,0,0,0,0,0,10", 20);
    }

    private static void beginningsOfTexts() {
        String[] texts = {"", "5*", "5,", "500*144,", "0*1,", "0,0*", "0,0,0,0,0,0,0,0,0,0,0,0,0,0,0,0,0,0,0,0,"};
        for (String text : texts) {
            dueError(text, text.length());
            MirrorTelegraph x = with(text);
            Check.refusedWithoutTrace(x, "load of " + text, Check.ARGUMENT, () -> x.load(0));
        }
    }

    private static void dueWrong(String text, int index) {
        dueError(text, index);
        MirrorTelegraph x = with(text);
        Check.refusedWithoutTrace(x, "load of " + text, Check.ARGUMENT, () -> x.load(0));
    }

    private static void syntaxErrors() {
        dueWrong("00", 1);
        dueWrong("01", 1);
        dueWrong("501", 2);
        dueWrong("510", 2);
        dueWrong("600", 2);
        dueWrong("999", 2);
        dueWrong("1000", 3);
        dueWrong("5000", 3);
        dueWrong("5*0", 2);
        dueWrong("5*00", 2);
        dueWrong("5*145", 4);
        dueWrong("5*150", 4);
        dueWrong("5*200", 4);
        dueWrong("5*1440", 5);
        dueWrong("5*1000", 5);
        dueWrong("5**", 2);
        dueWrong("5*,", 2);
        dueWrong("5*3*", 3);
        dueWrong("5*3*2", 3);
        dueWrong(",", 0);
        dueWrong("*", 0);
        dueWrong("5,,", 2);
        dueWrong("5,*", 2);
        dueWrong("5,00", 3);
        dueWrong("-1", 0);
        dueWrong("+1", 0);
        dueWrong("1.5", 1);
        dueWrong("5/", 1);
        dueWrong("5:", 1);
        dueWrong("/", 0);
        dueWrong(":", 0);
        dueWrong("a", 0);
        dueWrong("5;5", 1);
        dueWrong("7,8*9,x,1", 6);
    }

    private static void errorsInFullBuffers() {
        String full = "0,0,0,0,0,0,0,0,0,0,0,0,0,0,0,0,0,0,0,0";
        dueWrong(full + "0", 39);
        dueError(full + "*", 40);
        dueWrong(full.substring(0, 38) + ",0", 38);
    }

    private static void dueHeights(MirrorTelegraph x, int first, int... heights) {
        for (int i = 0; i < heights.length; i++) {
            int cell = first + i;
            Check.due("height of cell " + cell, heights[i], () -> Check.heightAt(x, cell));
        }
    }

    private static void loadItems() {
        MirrorTelegraph x = with("12,500*3,0,7*2");
        x.setHeight(9, 99);
        x.setHeight(14, 88);
        x.setHeight(17, 77);
        Check.due("load(10)", 7, () -> x.load(10));
        dueHeights(x, 9, 99, 12, 500, 500, 500, 0, 7, 7, 77);
        Check.due("the sum", 99 + 12 + 1500 + 14 + 77, () -> x.count(4));
        Check.refused("load(10) again", Check.ARGUMENT, () -> x.load(10));
        Check.append(x, "3");
        Check.due("load(143)", 1, () -> x.load(143));
        dueHeights(x, 142, 0, 3);
    }

    private static void loadToTheLastCell() {
        MirrorTelegraph x = with("5*4");
        Check.refusedWithoutTrace(x, "load(141) of 4 cells", Check.STATE, () -> x.load(141));
        Check.due("load(140) of 4 cells", 4, () -> x.load(140));
        dueHeights(x, 139, 0, 5, 5, 5, 5);
        Check.append(x, "1*144");
        Check.refusedWithoutTrace(x, "load(1) of 144 cells", Check.STATE, () -> x.load(1));
        Check.due("load(0) of 144 cells", 144, () -> x.load(0));
        Check.due("the sum", 144, () -> x.count(4));
        Check.append(x, "1*144,0");
        Check.refusedWithoutTrace(x, "load(0) of 145 cells", Check.STATE, () -> x.load(0));
        x.clearBuffer();
        Check.append(x, "0*144,0*144,0*144,0*144,0*144,0*144,0*9");
        Check.refusedWithoutTrace(x, "load(0) of 873 cells", Check.STATE, () -> x.load(0));
    }

    private static void loadOverHeights() {
        MirrorTelegraph x = with("0*144");
        x.addStation(20, 5, 1);
        x.setHeight(20, 300);
        Check.due("load(0)", 144, () -> x.load(0));
        Check.due("the greatest height", 0, () -> x.count(3));
        Check.due("the eye", 5, () -> x.station(0, 3));
    }

    private static void refusedLoads() {
        MirrorTelegraph x = with("5*9");
        int[] cells = {-1, 144, Integer.MIN_VALUE, Integer.MAX_VALUE};
        for (int cell : cells) {
            Check.refusedWithoutTrace(x, "load(" + cell + ")", Check.INDEX, () -> x.load(cell));
        }
        x.append('*');
        Check.refusedWithoutTrace(x, "load(144) of no text", Check.INDEX, () -> x.load(144));
        Check.refusedWithoutTrace(x, "load(143) of no text", Check.ARGUMENT, () -> x.load(143));
    }
}
