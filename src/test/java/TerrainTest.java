/** Promises 1 to 4: a new object, begin, setHeight, hill. */
public final class TerrainTest {

    public static void main(String[] args) {
        newObject();
        newObjectsAreApart();
        beginAnew();
        beginFreesTheTurns();
        setHeights();
        refusedHeights();
        hillOnFlatGround();
        hillAmongHeights();
        hillAtItsEdges();
        refusedHills();
        Check.end();
    }

    private static void dueEmpty(String what, MirrorTelegraph x) {
        int[] numbers = {0, 0, 0, 0, 0, 0, 0, 0, -1};
        for (int i = 0; i < numbers.length; i++) {
            int kind = i;
            Check.due(what + ": count(" + i + ")", numbers[i], () -> x.count(kind));
        }
        Check.dueDouble(what + ": workload()", 0.0, x.workload());
    }

    private static long digestOfEmpty(String buffer) {
        long hash = 1951;
        for (int i = 0; i < 8; i++) {
            hash = 31 * hash;
        }
        hash = 31 * hash - 1;
        for (int i = 0; i < 144; i++) {
            hash = 31 * hash;
        }
        hash = 31 * hash + buffer.length();
        for (int i = 0; i < buffer.length(); i++) {
            hash = 31 * hash + buffer.charAt(i);
        }
        return hash;
    }

    private static void newObject() {
        MirrorTelegraph x = new MirrorTelegraph();
        dueEmpty("new object", x);
        Check.due("NONE", -1, () -> MirrorTelegraph.NONE);
        Check.due("digest of a new object", digestOfEmpty(""), () -> x.digest());
        Check.due("firstError of a new object", 0, () -> x.firstError());
        Check.due("clearBuffer of a new object", 0, () -> x.clearBuffer());
        Check.due("clearClouds of a new object", 0, () -> x.clearClouds());
        Check.due("reorder of a new object", 0, () -> x.reorder());
        Check.due("begin of a new object", 0, () -> x.begin());
    }

    private static void newObjectsAreApart() {
        MirrorTelegraph x = new MirrorTelegraph();
        MirrorTelegraph y = new MirrorTelegraph();
        x.setHeight(3, 4);
        x.addStation(3, 1, 2);
        x.addStation(5, 1, 2);
        x.send(0, 1, 1, 6);
        x.addCloud(0, 1, 6, 7);
        x.append('5');
        Check.due("an object beside another one: digest", digestOfEmpty(""), () -> y.digest());
    }

    private static MirrorTelegraph full() {
        MirrorTelegraph x = new MirrorTelegraph();
        x.setHeight(100, 7);
        x.addStation(0, 10, 2);
        x.addStation(11, 10, 2);
        x.addStation(60, 10, 1);
        x.addCloud(60, 60, 6, 17);
        x.send(0, 1, 3, 6);
        Check.append(x, "5*");
        return x;
    }

    private static void beginAnew() {
        MirrorTelegraph x = full();
        Check.due("begin with 3 stations", 3, () -> x.begin());
        dueEmpty("after begin", x);
        Check.due("the buffer stays at begin: digest", digestOfEmpty("5*"), () -> x.digest());
        Check.due("begin again", 0, () -> x.begin());
        Check.due("the buffer stays at begin", 2, () -> x.clearBuffer());
        Check.refused("no station after begin", Check.INDEX, () -> x.station(0, 0));
        Check.refused("no message after begin", Check.INDEX, () -> x.message(0, 0));
        Check.due("stations are numbered anew", 0, () -> x.addStation(60, 0, 1));
        Check.due("no cloud after begin", 262016, () -> x.station(0, 4));
        Check.due("clouds are numbered anew", 0, () -> x.addCloud(0, 0, 6, 6));
    }

    private static void beginFreesTheTurns() {
        MirrorTelegraph x = full();
        x.begin();
        x.addStation(0, 10, 2);
        x.addStation(11, 10, 2);
        Check.due("busy after begin", -1, () -> x.busy(0, 6));
        Check.due("busy turns after begin", 0, () -> x.station(1, 5));
        Check.due("send after begin", 9, () -> x.send(0, 1, 3, 6));
        Check.due("messages are numbered anew", 0, () -> x.busy(0, 6));
    }

    private static void setHeights() {
        MirrorTelegraph x = new MirrorTelegraph();
        Check.due("setHeight(0, 500)", 0, () -> x.setHeight(0, 500));
        Check.due("setHeight(143, 1)", 0, () -> x.setHeight(143, 1));
        Check.due("setHeight(0, 20)", 500, () -> x.setHeight(0, 20));
        Check.due("setHeight(0, 20) again", 20, () -> x.setHeight(0, 20));
        Check.due("setHeight(143, 0)", 1, () -> x.setHeight(143, 0));
        Check.due("the sum", 20, () -> x.count(4));
        x.addStation(0, 5, 1);
        x.setHeight(0, 30);
        Check.due("the eye of a station on a cell that was raised", 35, () -> x.station(0, 3));
    }

    private static void refusedHeights() {
        MirrorTelegraph x = full();
        int[] noCells = {-1, 144, Integer.MIN_VALUE, Integer.MAX_VALUE};
        for (int cell : noCells) {
            Check.refusedWithoutTrace(x, "setHeight(" + cell + ", 1)", Check.INDEX, () -> x.setHeight(cell, 1));
            Check.refused("setHeight(" + cell + ", 501)", Check.INDEX, () -> x.setHeight(cell, 501));
        }
        int[] noHeights = {-1, 501, Integer.MIN_VALUE, Integer.MAX_VALUE};
        for (int height : noHeights) {
            Check.refusedWithoutTrace(x, "setHeight(0, " + height + ")", Check.ARGUMENT, () -> x.setHeight(0, height));
        }
    }

    private static void dueHeight(MirrorTelegraph x, int cell, int height) {
        Check.due("height of cell " + cell, height, () -> Check.heightAt(x, cell));
    }

    private static void hillOnFlatGround() {
        MirrorTelegraph x = new MirrorTelegraph();
        Check.due("hill(66, 100, 2)", 13, () -> x.hill(66, 100, 2));
        // 100 / 3 is 33, rounded down
        dueHeight(x, 66, 100);
        int[] near = {65, 67, 54, 78};
        for (int cell : near) {
            dueHeight(x, cell, 67);
        }
        int[] far = {64, 68, 42, 90, 53, 55, 77, 79};
        for (int cell : far) {
            dueHeight(x, cell, 34);
        }
        dueHeight(x, 63, 0);
        dueHeight(x, 69, 0);
        Check.due("the sum", 100 + 4 * 67 + 8 * 34, () -> x.count(4));
    }

    private static void hillAmongHeights() {
        MirrorTelegraph x = new MirrorTelegraph();
        x.setHeight(66, 50);
        x.setHeight(67, 25);
        x.setHeight(65, 24);
        x.setHeight(54, 400);
        // The neighbours get 25: of them 67 has it already, 54 is higher, 65 and 78 become higher.
        Check.due("hill(66, 50, 1)", 2, () -> x.hill(66, 50, 1));
        dueHeight(x, 66, 50);
        dueHeight(x, 67, 25);
        dueHeight(x, 65, 25);
        dueHeight(x, 78, 25);
        dueHeight(x, 54, 400);
        Check.due("hill(66, 50, 1) again", 0, () -> x.hill(66, 50, 1));
    }

    private static void hillAtItsEdges() {
        MirrorTelegraph x = new MirrorTelegraph();
        Check.due("hill(143, 500, 0)", 1, () -> x.hill(143, 500, 0));
        Check.due("the sum", 500, () -> x.count(4));
        // A hill at a corner does not go round to the other side: 1 + 2 + .. + 12 cells
        Check.due("hill(0, 1, 11)", 78, () -> x.hill(0, 1, 11));
        Check.due("the sum", 578, () -> x.count(4));
        dueHeight(x, 11, 1);
        dueHeight(x, 132, 1);
        dueHeight(x, 12 + 11, 0);
        x.begin();
        Check.due("hill(11, 500, 1)", 3, () -> x.hill(11, 500, 1));
        dueHeight(x, 12, 0);
        dueHeight(x, 10, 250);
        dueHeight(x, 23, 250);
        Check.due("hill(72, 24, 11)", 108, () -> x.hill(72, 24, 11));
        dueHeight(x, 83, 2);
    }

    private static void refusedHills() {
        MirrorTelegraph x = full();
        Check.refusedWithoutTrace(x, "hill(-1, 1, 0)", Check.INDEX, () -> x.hill(-1, 1, 0));
        Check.refusedWithoutTrace(x, "hill(144, 1, 0)", Check.INDEX, () -> x.hill(144, 1, 0));
        Check.refusedWithoutTrace(x, "hill(144, 0, 12)", Check.INDEX, () -> x.hill(144, 0, 12));
        Check.refusedWithoutTrace(x, "hill(0, 0, 0)", Check.ARGUMENT, () -> x.hill(0, 0, 0));
        Check.refusedWithoutTrace(x, "hill(0, 501, 0)", Check.ARGUMENT, () -> x.hill(0, 501, 0));
        Check.refusedWithoutTrace(x, "hill(0, 9, -1)", Check.ARGUMENT, () -> x.hill(0, 9, -1));
        Check.refusedWithoutTrace(x, "hill(0, 9, 12)", Check.ARGUMENT, () -> x.hill(0, 9, 12));
        Check.refusedWithoutTrace(x, "hill(0, 9, MAX)", Check.ARGUMENT, () -> x.hill(0, 9, Integer.MAX_VALUE));
    }
}
