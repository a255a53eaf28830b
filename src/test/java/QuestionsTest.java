/** Promises 17 to 22: count, station, blocker, link, mastFor, bestCell. */
public final class QuestionsTest {

    private static final int ALL_SUN = 262016;

    public static void main(String[] args) {
        counts();
        greatestHeightAnywhere();
        refusedCounts();
        refusedStations();
        lineOfSightBothWays();
        sightOverACell();
        sightOverASlope();
        firstBlockerOfSeveral();
        sightInAllDirections();
        refusedBlockers();
        sunByTheHour();
        lightAboveAHill();
        lightOnALine();
        singleMirror();
        singleMirrorAtItsEdge();
        orderOfReasons();
        refusedLinks();
        leastMasts();
        bestCells();
        bestCellBehindAWall();
        refusedBestCells();
        Check.end();
    }

    private static void counts() {
        MirrorTelegraph x = new MirrorTelegraph();
        x.setHeight(100, 40);
        x.setHeight(101, 30);
        x.setHeight(20, 40);
        x.addStation(0, 0, 2);
        x.addStation(11, 0, 1);
        x.addStation(2, 0, 2);
        x.addCloud(143, 143, 6, 6);
        x.addCloud(143, 143, 6, 6);
        x.send(0, 1, 4, 6);
        x.send(2, 1, 2, 60);
        x.send(0, 2, 1, 6);
        int[] numbers = {3, 2, 3, 40, 110, 2, 6, 14, 62};
        for (int i = 0; i < numbers.length; i++) {
            int what = i;
            Check.due("count(" + i + ")", numbers[i], () -> x.count(what));
        }
        x.setHeight(1, 9);
        // Station 2 and the cell 1 stand between the others.
        Check.due("count(6) with a wall at 1", 2, () -> x.count(6));
    }

    private static void greatestHeightAnywhere() {
        int[] cells = {0, 77, 143};
        for (int cell : cells) {
            MirrorTelegraph x = new MirrorTelegraph();
            x.setHeight(cell, 500);
            x.setHeight(50, 499);
            Check.due("count(3) with 500 on cell " + cell, 500, () -> x.count(3));
            Check.due("count(4) with 500 on cell " + cell, 999, () -> x.count(4));
        }
    }

    private static void refusedCounts() {
        MirrorTelegraph x = new MirrorTelegraph();
        int[] kinds = {-1, 9, Integer.MIN_VALUE, Integer.MAX_VALUE};
        for (int what : kinds) {
            Check.refusedWithoutTrace(x, "count(" + what + ")", Check.ARGUMENT, () -> x.count(what));
        }
    }

    private static void refusedStations() {
        MirrorTelegraph x = new MirrorTelegraph();
        Check.refused("station(0, 0) of none", Check.INDEX, () -> x.station(0, 0));
        x.addStation(0, 0, 2);
        Check.refusedWithoutTrace(x, "station(-1, 0)", Check.INDEX, () -> x.station(-1, 0));
        Check.refusedWithoutTrace(x, "station(1, 6)", Check.INDEX, () -> x.station(1, 6));
        Check.refusedWithoutTrace(x, "station(0, 6)", Check.ARGUMENT, () -> x.station(0, 6));
        Check.refusedWithoutTrace(x, "station(0, -1)", Check.ARGUMENT, () -> x.station(0, -1));
    }

    private static MirrorTelegraph pair(int one, int other, int oneMast, int otherMast) {
        MirrorTelegraph x = new MirrorTelegraph();
        x.addStation(one, oneMast, 1);
        x.addStation(other, otherMast, 1);
        return x;
    }

    /** From (0,0) to (2,1) the half goes to (1,1); backwards it goes to (1,0). */
    private static void lineOfSightBothWays() {
        MirrorTelegraph x = pair(0, 14, 0, 0);
        x.setHeight(13, 1);
        Check.due("blocker(0, 1)", 13, () -> x.blocker(0, 1));
        Check.due("blocker(1, 0)", -1, () -> x.blocker(1, 0));
        Check.due("count(6)", 1, () -> x.count(6));
        x.setHeight(13, 0);
        x.setHeight(1, 1);
        Check.due("blocker(0, 1)", -1, () -> x.blocker(0, 1));
        Check.due("blocker(1, 0)", 1, () -> x.blocker(1, 0));
    }

    private static void sightOverACell() {
        MirrorTelegraph x = pair(60, 64, 10, 10);
        x.setHeight(62, 10);
        Check.due("a cell as high as the line", -1, () -> x.blocker(0, 1));
        x.setHeight(62, 11);
        Check.due("a cell above the line", 62, () -> x.blocker(0, 1));
        x.setHeight(62, 0);
        x.setHeight(59, 500);
        x.setHeight(65, 500);
        Check.due("cells beyond the two", -1, () -> x.blocker(0, 1));
        x.setHeight(60, 20);
        x.setHeight(64, 20);
        Check.due("the cells of the two", -1, () -> x.blocker(0, 1));
        MirrorTelegraph y = pair(60, 61, 0, 0);
        y.setHeight(60, 500);
        Check.due("neighbours", -1, () -> y.blocker(1, 0));
    }

    private static void sightOverASlope() {
        MirrorTelegraph x = pair(60, 63, 0, 30);
        x.setHeight(61, 10);
        x.setHeight(62, 20);
        Check.due("on the line upwards", -1, () -> x.blocker(0, 1));
        Check.due("on the line downwards", -1, () -> x.blocker(1, 0));
        x.setHeight(62, 21);
        Check.due("above the line upwards", 62, () -> x.blocker(0, 1));
        x.setHeight(61, 11);
        Check.due("the first one upwards", 61, () -> x.blocker(0, 1));
        Check.due("the first one downwards", 62, () -> x.blocker(1, 0));
        x.setMast(1, 32);
        Check.due("with a higher mast: 32 / 3 < 11", 61, () -> x.blocker(0, 1));
        x.setMast(1, 33);
        Check.due("with a mast of 33", -1, () -> x.blocker(0, 1));
    }

    private static void firstBlockerOfSeveral() {
        MirrorTelegraph x = pair(0, 143, 0, 0);
        x.setHeight(13 * 4, 5);
        x.setHeight(13 * 7, 500);
        Check.due("blocker(0, 1)", 52, () -> x.blocker(0, 1));
        Check.due("blocker(1, 0)", 91, () -> x.blocker(1, 0));
    }

    /** From the middle (5,5) the knight's moves of (3,1) and its like: k = 1 gives a third, rounded to 0, and k = 2 to 1. */
    private static void sightInAllDirections() {
        int[][] moves = {{3, 1}, {3, -1}, {-3, 1}, {-3, -1}, {1, 3}, {1, -3}, {-1, 3}, {-1, -3}};
        for (int[] move : moves) {
            int dx = move[0];
            int dy = move[1];
            int near = 12 * (5 + Integer.signum(dy) * (Math.abs(dy) / 3)) + 5 + Integer.signum(dx) * (Math.abs(dx) / 3);
            int far = 12 * (5 + Integer.signum(dy) * (Math.abs(dy) == 3 ? 2 : 1))
                    + 5 + Integer.signum(dx) * (Math.abs(dx) == 3 ? 2 : 1);
            for (int cell = 0; cell < 144; cell++) {
                MirrorTelegraph x = pair(65, 12 * (5 + dy) + 5 + dx, 0, 0);
                x.setHeight(cell, 1);
                int want = cell == near || cell == far ? cell : -1;
                Check.due("blocker along " + dx + ", " + dy + " with cell " + cell, want, () -> x.blocker(0, 1));
            }
        }
    }

    private static void refusedBlockers() {
        MirrorTelegraph x = pair(0, 5, 0, 0);
        int[] none = {-1, 2, Integer.MIN_VALUE, Integer.MAX_VALUE};
        for (int station : none) {
            Check.refusedWithoutTrace(x, "blocker(" + station + ", 0)", Check.INDEX, () -> x.blocker(station, 0));
            Check.refusedWithoutTrace(x, "blocker(0, " + station + ")", Check.INDEX, () -> x.blocker(0, station));
            Check.refused("blocker twice " + station, Check.INDEX, () -> x.blocker(station, station));
            Check.refused("mastFor(" + station + ", 0)", Check.INDEX, () -> x.mastFor(station, 0));
            Check.refused("mastFor(0, " + station + ")", Check.INDEX, () -> x.mastFor(0, station));
            Check.refused("mastFor twice " + station, Check.INDEX, () -> x.mastFor(station, station));
        }
        Check.refusedWithoutTrace(x, "blocker(1, 1)", Check.ARGUMENT, () -> x.blocker(1, 1));
        Check.refusedWithoutTrace(x, "mastFor(1, 1)", Check.ARGUMENT, () -> x.mastFor(1, 1));
    }

    private static void sunByTheHour() {
        MirrorTelegraph x = new MirrorTelegraph();
        x.addStation(65, 0, 2);
        x.addStation(66, 0, 2);
        for (int h = 6; h <= 17; h++) {
            int hour = h;
            Check.due("link(0, 1, " + h + ")", h == 6 ? 1 : 0, () -> x.link(0, 1, hour));
        }
        Check.due("station(0, 4)", ALL_SUN, () -> x.station(0, 4));
        x.addStation(136, 0, 2);
        x.setHeight(135, 500);
        x.setHeight(137, 500);
        x.setHeight(124, 500);
        Check.due("nothing stands south of the last row", ALL_SUN, () -> x.station(2, 4));
    }

    private static void lightAboveAHill() {
        MirrorTelegraph x = new MirrorTelegraph();
        x.addStation(65, 10, 2);
        x.addStation(53, 0, 2);
        x.setHeight(77, 50);
        // At 11 and 13 the light is lower: at 10 + 100 / 3.
        int beside = ALL_SUN - (1 << 11) - (1 << 13);
        Check.due("a hill of 50 at noon", beside, () -> x.station(0, 4));
        x.setHeight(77, 51);
        Check.due("a hill of 51 at noon", beside - (1 << 12), () -> x.station(0, 4));
        Check.due("link(0, 1, 12)", 2, () -> x.link(0, 1, 12));
        x.setMast(0, 11);
        Check.due("a higher mast", 0, () -> x.link(0, 1, 12));
        x.setHeight(77, 0);
        x.setHeight(137, 251);
        // Six cells to the south the light is at 11 + 40 * 6.
        Check.due("far in the south as high as the light", 0, () -> x.link(0, 1, 12));
        x.setHeight(137, 252);
        Check.due("far in the south", 2, () -> x.link(0, 1, 12));
    }

    /** The cells that can stand in the light of (5,5), one after the other: the hours that each of them takes. */
    private static void lightOnALine() {
        dueHoursLostAt(61, 72, 500, 14, 15, 16, 17);
        dueHoursLostAt(70, 83, 500, 7, 8, 9, 10);
        dueHoursLostAt(126, 138, 500, 11, 12, 13);
        dueHoursLost(78, 500, 7, 8, 9, 10);
        dueHoursLost(78, 5, 7);
        dueHoursLost(78, 4);
        dueHoursLost(76, 500, 14, 15, 16, 17);
        dueHoursLost(76, 4);
        dueHoursLost(77, 500, 11, 12, 13);
        // At hour 8 the second cell is (2, 6 / 4): the half goes on to 2.
        dueHoursLost(91, 21, 8);
        dueHoursLost(91, 20);
        dueHoursLost(87, 21, 16);
        dueHoursLost(79, 500, 7);
        dueHoursLost(75, 500, 17);
        dueHoursLost(92, 500, 7, 8);
        dueHoursLost(131, 500, 8);
        dueHoursLost(119, 500, 7);
        dueHoursLost(64, 500);
        dueHoursLost(66, 500);
        dueHoursLost(53, 500);
    }

    private static void dueHoursLost(int cell, int height, int... hours) {
        dueHoursLostAt(65, cell, height, hours);
    }

    private static void dueHoursLostAt(int place, int cell, int height, int... hours) {
        MirrorTelegraph x = new MirrorTelegraph();
        x.addStation(place, 0, 2);
        x.setHeight(cell, height);
        int want = ALL_SUN;
        for (int hour : hours) {
            want -= 1 << hour;
        }
        int left = want;
        Check.due("sun of " + place + " behind cell " + cell + " of " + height, left, () -> x.station(0, 4));
    }

    private static void singleMirror() {
        MirrorTelegraph x = pair(65, 70, 0, 0);
        // Eastwards a single mirror throws in the morning, westwards in the afternoon; at noon all is 0.
        for (int h = 7; h <= 17; h++) {
            int hour = h;
            Check.due("eastwards at " + h, h < 12 ? 0 : 5, () -> x.link(0, 1, hour));
            Check.due("westwards at " + h, h > 12 ? 0 : 5, () -> x.link(1, 0, hour));
        }
        MirrorTelegraph y = pair(65, 125, 0, 0);
        for (int h = 7; h <= 17; h++) {
            int hour = h;
            Check.due("southwards at " + h, 0, () -> y.link(0, 1, hour));
            Check.due("northwards at " + h, 5, () -> y.link(1, 0, hour));
        }
        y.addStation(66, 0, 2);
        y.lend(2, 1);
        Check.due("northwards with two mirrors", 0, () -> y.link(1, 0, 7));
    }

    private static void singleMirrorAtItsEdge() {
        MirrorTelegraph x = pair(65, 70, 7, 8);
        Check.due("one metre upwards at noon", 0, () -> x.link(0, 1, 12));
        Check.due("one metre downwards at noon", 5, () -> x.link(1, 0, 12));
        MirrorTelegraph y = pair(65, 53, 0, 0);
        y.setHeight(53, 250);
        Check.due("-1500 + 6 * 250 at noon", 5, () -> y.link(0, 1, 12));
        y.setHeight(53, 251);
        Check.due("-1500 + 6 * 251 at noon", 0, () -> y.link(0, 1, 12));
        Check.due("-1500 + 5 * 251 at 13", 5, () -> y.link(0, 1, 13));
        y.setHeight(53, 301);
        Check.due("-1500 + 5 * 301 at 13", 0, () -> y.link(0, 1, 13));
        MirrorTelegraph z = pair(65, 70 - 12, 0, 0);
        // At 11: 500 * (5 - 3), at 12: 500 * (0 - 3)
        Check.due("(5, -1) at 11", 0, () -> z.link(0, 1, 11));
        Check.due("(5, -1) at 12", 5, () -> z.link(0, 1, 12));
        MirrorTelegraph v = pair(65, 42, 0, 0);
        v.setHeight(42, 500);
        Check.due("(1, -2) at 7: 500 * (5 - 6) + 500", 5, () -> v.link(0, 1, 7));
        v.setMast(1, 1);
        Check.due("(1, -2) at 7: 500 * (5 - 6) + 501", 0, () -> v.link(0, 1, 7));
        MirrorTelegraph w = pair(66, 66 + 12 + 3, 0, 0);
        Check.due("(3, 1) at 13: 500 * (-3 + 3)", 5, () -> w.link(0, 1, 13));
        w.setMast(1, 1);
        Check.due("(3, 1) at 13 upwards", 0, () -> w.link(0, 1, 13));
    }

    private static void orderOfReasons() {
        MirrorTelegraph x = pair(65, 41, 0, 0);
        x.setHeight(53, 100);
        x.setHeight(77, 500);
        x.addCloud(65, 65, 6, 17);
        Check.due("1: not up", 1, () -> x.link(0, 1, 6));
        Check.due("2: its light is blocked", 2, () -> x.link(0, 1, 12));
        x.setHeight(77, 0);
        Check.due("3: a cloud", 3, () -> x.link(0, 1, 12));
        x.clearClouds();
        Check.due("4: the line of sight", 4, () -> x.link(0, 1, 12));
        x.setHeight(53, 0);
        Check.due("5: the mirror", 5, () -> x.link(0, 1, 12));
        Check.due("0: the other way", 0, () -> x.link(1, 0, 12));
        x.addCloud(65, 65, 6, 17);
        Check.due("0: to below a cloud", 0, () -> x.link(1, 0, 12));
    }

    private static void refusedLinks() {
        MirrorTelegraph x = pair(0, 5, 0, 0);
        int[] none = {-1, 2, Integer.MIN_VALUE, Integer.MAX_VALUE};
        for (int station : none) {
            Check.refusedWithoutTrace(x, "link(" + station + ", 0, 9)", Check.INDEX, () -> x.link(station, 0, 9));
            Check.refusedWithoutTrace(x, "link(0, " + station + ", 5)", Check.INDEX, () -> x.link(0, station, 5));
            Check.refused("link twice " + station, Check.INDEX, () -> x.link(station, station, 9));
        }
        Check.refusedWithoutTrace(x, "link(1, 1, 9)", Check.ARGUMENT, () -> x.link(1, 1, 9));
        Check.refusedWithoutTrace(x, "link(0, 1, 5)", Check.ARGUMENT, () -> x.link(0, 1, 5));
        Check.refusedWithoutTrace(x, "link(0, 1, 18)", Check.ARGUMENT, () -> x.link(0, 1, 18));
    }

    private static void leastMasts() {
        MirrorTelegraph x = pair(60, 62, 33, 0);
        Check.due("mastFor on flat ground", 0, () -> x.mastFor(0, 1));
        x.setHeight(61, 25);
        Check.due("mastFor(0, 1) over 25", 50, () -> x.mastFor(0, 1));
        Check.due("mastFor(1, 0) over 25 to an eye of 33", 17, () -> x.mastFor(1, 0));
        x.setHeight(61, 26);
        Check.due("mastFor(0, 1) over 26", -1, () -> x.mastFor(0, 1));
        x.setHeight(60, 40);
        Check.due("mastFor(0, 1) from 40", 12, () -> x.mastFor(0, 1));
        Check.due("the mast stays", 33, () -> x.station(0, 1));
        MirrorTelegraph y = pair(0, 14, 0, 0);
        y.setHeight(13, 10);
        Check.due("mastFor(0, 1) along its own line", 20, () -> y.mastFor(0, 1));
        Check.due("mastFor(1, 0) along its own line", 0, () -> y.mastFor(1, 0));
    }

    private static void bestCells() {
        MirrorTelegraph x = new MirrorTelegraph();
        Check.due("bestCell(0) of a new object", 0, () -> x.bestCell(0));
        x.addStation(0, 0, 1);
        Check.due("bestCell(50) beside a station", 1, () -> x.bestCell(50));
        x.setHeight(100, 3);
        x.setHeight(90, 3);
        Check.due("the lowest number of the highest cells", 90, () -> x.bestCell(0));
        x.addStation(90, 0, 1);
        // From 100 both are in sight, and it is higher than all others that see both.
        Check.due("another one", 100, () -> x.bestCell(0));
        for (int i = 2; i < 8; i++) {
            x.addStation(130 + i, 50, 2);
        }
        long before = x.digest();
        Check.due("for a ninth station", 100, () -> x.bestCell(50));
        Check.due("bestCell changes nothing", before, () -> x.digest());
    }

    private static void bestCellBehindAWall() {
        MirrorTelegraph x = new MirrorTelegraph();
        x.addStation(0, 0, 1);
        x.setHeight(1, 100);
        Check.due("the cell of 100", 1, () -> x.bestCell(0));
        x.setHeight(143, 200);
        Check.due("the cell of 200", 143, () -> x.bestCell(0));
        x.setHeight(130, 250);
        x.addStation(130, 0, 1);
        // Now 143 sees the station on 130 alone, which stands between it and the other one.
        Check.due("a cell that sees both", 1, () -> x.bestCell(0));
        Check.due("with a mast of 50", 1, () -> x.bestCell(50));
        x.setHeight(130, 222);
        // From 143 the line to 0 is at 250 * 10 / 11 = 227 above 130.
        Check.due("with a mast of 50 above the lower cell", 143, () -> x.bestCell(50));
        Check.due("without a mast", 1, () -> x.bestCell(0));
    }

    private static void refusedBestCells() {
        MirrorTelegraph x = new MirrorTelegraph();
        int[] masts = {-1, 51, Integer.MIN_VALUE, Integer.MAX_VALUE};
        for (int mast : masts) {
            Check.refusedWithoutTrace(x, "bestCell(" + mast + ")", Check.ARGUMENT, () -> x.bestCell(mast));
        }
    }
}
