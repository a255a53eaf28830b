/** Promises 9 to 13: addStation, setMast, lend, addCloud, clearClouds. */
public final class StationsTest {

    private static final int ALL_SUN = 262016;

    public static void main(String[] args) {
        addStations();
        refusedStations();
        eightStations();
        setMasts();
        lendMirrors();
        refusedLendings();
        cloudOnARectangle();
        cloudOfAnyCorners();
        cloudHours();
        refusedClouds();
        clearAllClouds();
        Check.end();
    }

    private static void addStations() {
        MirrorTelegraph x = new MirrorTelegraph();
        x.setHeight(143, 500);
        Check.due("addStation(143, 50, 2)", 0, () -> x.addStation(143, 50, 2));
        Check.due("addStation(0, 0, 1)", 1, () -> x.addStation(0, 0, 1));
        int[] first = {143, 50, 2, 550, ALL_SUN, 0};
        // At 9 the cell 143 stands in the light that comes along the diagonal.
        int[] second = {0, 0, 1, 0, ALL_SUN - (1 << 9), 0};
        for (int i = 0; i < 6; i++) {
            int what = i;
            Check.due("station(0, " + i + ")", first[i], () -> x.station(0, what));
            Check.due("station(1, " + i + ")", second[i], () -> x.station(1, what));
        }
        Check.due("count(0)", 2, () -> x.count(0));
    }

    private static void refusedStations() {
        MirrorTelegraph x = new MirrorTelegraph();
        x.addStation(7, 0, 1);
        Check.refusedWithoutTrace(x, "addStation(-1, 0, 1)", Check.INDEX, () -> x.addStation(-1, 0, 1));
        Check.refusedWithoutTrace(x, "addStation(144, 51, 3)", Check.INDEX, () -> x.addStation(144, 51, 3));
        Check.refusedWithoutTrace(x, "addStation(7, -1, 1)", Check.ARGUMENT, () -> x.addStation(7, -1, 1));
        Check.refusedWithoutTrace(x, "addStation(8, 51, 1)", Check.ARGUMENT, () -> x.addStation(8, 51, 1));
        Check.refusedWithoutTrace(x, "addStation(8, 0, 0)", Check.ARGUMENT, () -> x.addStation(8, 0, 0));
        Check.refusedWithoutTrace(x, "addStation(8, 0, 3)", Check.ARGUMENT, () -> x.addStation(8, 0, 3));
        Check.refusedWithoutTrace(x, "addStation(7, 0, 1)", Check.STATE, () -> x.addStation(7, 0, 1));
    }

    private static void eightStations() {
        MirrorTelegraph x = new MirrorTelegraph();
        for (int i = 0; i < 8; i++) {
            int station = i;
            Check.due("station number " + i, station, () -> x.addStation(10 * station, 0, 2));
        }
        Check.refusedWithoutTrace(x, "a ninth station", Check.STATE, () -> x.addStation(143, 0, 2));
        Check.refusedWithoutTrace(x, "a ninth one of a wrong mast", Check.ARGUMENT, () -> x.addStation(143, 51, 2));
        Check.refusedWithoutTrace(x, "a ninth one on no cell", Check.INDEX, () -> x.addStation(144, 0, 2));
        Check.due("the last one", 70, () -> x.station(7, 0));
    }

    private static void setMasts() {
        MirrorTelegraph x = new MirrorTelegraph();
        x.addStation(1, 9, 1);
        x.addStation(2, 8, 1);
        x.setHeight(1, 100);
        Check.due("setMast(0, 50)", 9, () -> x.setMast(0, 50));
        Check.due("setMast(0, 0)", 50, () -> x.setMast(0, 0));
        Check.due("setMast(0, 3)", 0, () -> x.setMast(0, 3));
        Check.due("the eye", 103, () -> x.station(0, 3));
        Check.due("the other mast", 8, () -> x.station(1, 1));
        int[] none = {-1, 2, Integer.MIN_VALUE, Integer.MAX_VALUE};
        for (int station : none) {
            Check.refusedWithoutTrace(x, "setMast(" + station + ", 1)", Check.INDEX, () -> x.setMast(station, 1));
            Check.refused("setMast(" + station + ", 51)", Check.INDEX, () -> x.setMast(station, 51));
        }
        Check.refusedWithoutTrace(x, "setMast(0, 51)", Check.ARGUMENT, () -> x.setMast(0, 51));
        Check.refusedWithoutTrace(x, "setMast(0, -1)", Check.ARGUMENT, () -> x.setMast(0, -1));
    }

    private static MirrorTelegraph fourStations() {
        MirrorTelegraph x = new MirrorTelegraph();
        x.addStation(1, 0, 2);
        x.addStation(2, 0, 1);
        x.addStation(3, 0, 2);
        x.addStation(4, 0, 1);
        return x;
    }

    private static void lendMirrors() {
        MirrorTelegraph x = fourStations();
        Check.due("lend(0, 3)", 2, () -> x.lend(0, 3));
        int[] mirrors = {1, 1, 2, 2};
        for (int i = 0; i < 4; i++) {
            int station = i;
            Check.due("mirrors of " + i, mirrors[i], () -> x.station(station, 2));
        }
        Check.due("lend(3, 0) back", 2, () -> x.lend(3, 0));
        Check.due("mirrors of 0", 2, () -> x.station(0, 2));
        Check.due("mirrors of 3", 1, () -> x.station(3, 2));
        x.addStation(50, 0, 2);
        Check.due("lend(4, 1) of three", 3, () -> x.lend(4, 1));
    }

    private static void refusedLendings() {
        MirrorTelegraph x = fourStations();
        Check.refusedWithoutTrace(x, "lend(-1, 1)", Check.INDEX, () -> x.lend(-1, 1));
        Check.refusedWithoutTrace(x, "lend(4, 1)", Check.INDEX, () -> x.lend(4, 1));
        Check.refusedWithoutTrace(x, "lend(0, 4)", Check.INDEX, () -> x.lend(0, 4));
        Check.refusedWithoutTrace(x, "lend(1, -1)", Check.INDEX, () -> x.lend(1, -1));
        Check.refusedWithoutTrace(x, "lend(0, 2)", Check.STATE, () -> x.lend(0, 2));
        Check.refusedWithoutTrace(x, "lend(1, 3)", Check.STATE, () -> x.lend(1, 3));
        Check.refusedWithoutTrace(x, "lend(1, 0)", Check.STATE, () -> x.lend(1, 0));
        Check.refusedWithoutTrace(x, "lend(0, 0)", Check.STATE, () -> x.lend(0, 0));
        Check.refusedWithoutTrace(x, "lend(1, 1)", Check.STATE, () -> x.lend(1, 1));
    }

    /** Which cells a cloud at hour 12 covers, told by a station that stands on each of them in turn. */
    private static void dueCovered(String what, int first, int last, int west, int east, int north, int south) {
        for (int cell = 0; cell < 144; cell++) {
            MirrorTelegraph x = new MirrorTelegraph();
            x.addStation(cell, 0, 2);
            x.addCloud(first, last, 12, 12);
            boolean inside = cell % 12 >= west && cell % 12 <= east && cell / 12 >= north && cell / 12 <= south;
            Check.due(what + " at cell " + cell, inside ? ALL_SUN - (1 << 12) : ALL_SUN, () -> x.station(0, 4));
        }
    }

    private static void cloudOnARectangle() {
        dueCovered("cloud on 2..4, 3..5", 38, 64, 2, 4, 3, 5);
        dueCovered("cloud on one cell", 70, 70, 10, 10, 5, 5);
        dueCovered("cloud on all", 0, 143, 0, 11, 0, 11);
    }

    private static void cloudOfAnyCorners() {
        dueCovered("cloud from the south-east", 64, 38, 2, 4, 3, 5);
        dueCovered("cloud from the north-east", 40, 62, 2, 4, 3, 5);
        dueCovered("cloud from the south-west", 62, 40, 2, 4, 3, 5);
    }

    private static void cloudHours() {
        MirrorTelegraph x = new MirrorTelegraph();
        x.addStation(5, 0, 2);
        x.addStation(6, 0, 2);
        Check.due("addCloud(5, 5, 7, 9)", 0, () -> x.addCloud(5, 5, 7, 9));
        Check.due("sun of 0", ALL_SUN - (1 << 7) - (1 << 8) - (1 << 9), () -> x.station(0, 4));
        Check.due("sun of 1", ALL_SUN, () -> x.station(1, 4));
        Check.due("link(0, 1, 9)", 3, () -> x.link(0, 1, 9));
        Check.due("link(0, 1, 10)", 0, () -> x.link(0, 1, 10));
        Check.due("a covered station can receive", 0, () -> x.link(1, 0, 9));
        Check.due("addCloud(5, 5, 17, 17)", 1, () -> x.addCloud(5, 5, 17, 17));
        Check.due("addCloud(6, 6, 6, 17)", 2, () -> x.addCloud(6, 6, 6, 17));
        Check.due("sun of 0", (1 << 17) - (1 << 10), () -> x.station(0, 4));
        Check.due("sun of 1", 0, () -> x.station(1, 4));
        Check.due("count(1)", 3, () -> x.count(1));
    }

    private static void refusedClouds() {
        MirrorTelegraph x = new MirrorTelegraph();
        x.addStation(5, 0, 2);
        Check.refusedWithoutTrace(x, "addCloud(-1, 0, 7, 8)", Check.INDEX, () -> x.addCloud(-1, 0, 7, 8));
        Check.refusedWithoutTrace(x, "addCloud(0, -1, 7, 8)", Check.INDEX, () -> x.addCloud(0, -1, 7, 8));
        Check.refusedWithoutTrace(x, "addCloud(144, 0, 8, 7)", Check.INDEX, () -> x.addCloud(144, 0, 8, 7));
        Check.refusedWithoutTrace(x, "addCloud(0, 144, 5, 7)", Check.INDEX, () -> x.addCloud(0, 144, 5, 7));
        Check.refusedWithoutTrace(x, "addCloud(0, 9, 5, 7)", Check.ARGUMENT, () -> x.addCloud(0, 9, 5, 7));
        Check.refusedWithoutTrace(x, "addCloud(0, 9, 18, 18)", Check.ARGUMENT, () -> x.addCloud(0, 9, 18, 18));
        Check.refusedWithoutTrace(x, "addCloud(0, 9, 6, 18)", Check.ARGUMENT, () -> x.addCloud(0, 9, 6, 18));
        Check.refusedWithoutTrace(x, "addCloud(0, 9, 8, 7)", Check.ARGUMENT, () -> x.addCloud(0, 9, 8, 7));
        for (int i = 0; i < 6; i++) {
            int cloud = i;
            Check.due("cloud number " + i, cloud, () -> x.addCloud(5, 5, 6 + cloud, 6 + cloud));
        }
        Check.refusedWithoutTrace(x, "a seventh cloud", Check.STATE, () -> x.addCloud(5, 5, 17, 17));
        Check.refusedWithoutTrace(x, "a seventh one of wrong hours", Check.ARGUMENT, () -> x.addCloud(5, 5, 17, 18));
        Check.refusedWithoutTrace(x, "a seventh one on no cell", Check.INDEX, () -> x.addCloud(5, 144, 17, 17));
        Check.due("all six cover", ALL_SUN - 31 * 128, () -> x.station(0, 4));
    }

    private static void clearAllClouds() {
        MirrorTelegraph x = new MirrorTelegraph();
        x.addStation(5, 0, 2);
        x.addCloud(5, 5, 7, 9);
        x.addCloud(0, 143, 9, 17);
        Check.due("sun before", 0, () -> x.station(0, 4));
        Check.due("clearClouds()", 2, () -> x.clearClouds());
        Check.due("sun after", ALL_SUN, () -> x.station(0, 4));
        Check.due("count(1)", 0, () -> x.count(1));
        Check.due("clearClouds() again", 0, () -> x.clearClouds());
        Check.due("clouds are numbered anew", 0, () -> x.addCloud(5, 5, 7, 7));
        Check.due("the old clouds are gone", ALL_SUN - 128, () -> x.station(0, 4));
    }
}
