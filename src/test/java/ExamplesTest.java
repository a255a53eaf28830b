/** The four examples of the document's description. */
public final class ExamplesTest {

    public static void main(String[] args) {
        sightAndMasts();
        threeStationsInARow();
        textHillAndBestCell();
        lentMirrorAndCloud();
        Check.end();
    }

    private static void sightAndMasts() {
        MirrorTelegraph x = new MirrorTelegraph();
        Check.due("addStation(0, 10, 1)", 0, () -> x.addStation(0, 10, 1));
        Check.due("addStation(40, 10, 2)", 1, () -> x.addStation(40, 10, 2));
        Check.due("setHeight(13, 30)", 0, () -> x.setHeight(13, 30));
        Check.due("blocker(0, 1)", 13, () -> x.blocker(0, 1));
        Check.due("mastFor(0, 1)", 37, () -> x.mastFor(0, 1));
        Check.due("link(0, 1, 9)", 4, () -> x.link(0, 1, 9));
        Check.due("link(1, 0, 12)", 4, () -> x.link(1, 0, 12));
        Check.due("setHeight(13, 0)", 30, () -> x.setHeight(13, 0));
        Check.due("link(0, 1, 9)", 0, () -> x.link(0, 1, 9));
        Check.due("link(0, 1, 6)", 1, () -> x.link(0, 1, 6));
        Check.due("station(0, 4)", 262016, () -> x.station(0, 4));
    }

    private static void threeStationsInARow() {
        MirrorTelegraph x = new MirrorTelegraph();
        Check.due("addStation(60, 5, 2)", 0, () -> x.addStation(60, 5, 2));
        Check.due("addStation(65, 5, 1)", 1, () -> x.addStation(65, 5, 1));
        Check.due("addStation(71, 5, 1)", 2, () -> x.addStation(71, 5, 1));
        Check.due("send(0, 2, 3, 0)", 9, () -> x.send(0, 2, 3, 0));
        Check.due("message(0, 5)", 1, () -> x.message(0, 5));
        Check.due("hop(0, 0, 2)", 6, () -> x.hop(0, 0, 2));
        Check.due("busy(0, 8)", 0, () -> x.busy(0, 8));
        Check.due("send(0, 2, 3, 0)", 12, () -> x.send(0, 2, 3, 0));
        Check.due("send(2, 0, 1, 70)", 71, () -> x.send(2, 0, 1, 70));
        Check.due("cancel(0)", 2, () -> x.cancel(0));
        Check.due("reorder()", 2, () -> x.reorder());
        Check.dueDouble("workload()", 0.037037037037037035, x.workload());
    }

    private static void textHillAndBestCell() {
        MirrorTelegraph x = new MirrorTelegraph();
        Check.due("append(53)", 1, () -> x.append(53));
        Check.due("append(48)", 2, () -> x.append(48));
        Check.due("append(42)", 3, () -> x.append(42));
        Check.due("append(51)", 4, () -> x.append(51));
        Check.due("firstError()", 4, () -> x.firstError());
        Check.due("load(10)", 3, () -> x.load(10));
        Check.due("count(4)", 150, () -> x.count(4));
        Check.due("hill(66, 100, 2)", 13, () -> x.hill(66, 100, 2));
        Check.due("bestCell(0)", 66, () -> x.bestCell(0));
        Check.refused("load(0)", Check.ARGUMENT, () -> x.load(0));
        Check.refused("setHeight(144, 0)", Check.INDEX, () -> x.setHeight(144, 0));
    }

    private static void lentMirrorAndCloud() {
        MirrorTelegraph x = new MirrorTelegraph();
        Check.due("addStation(30, 0, 1)", 0, () -> x.addStation(30, 0, 1));
        Check.refused("addStation(30, 0, 1)", Check.STATE, () -> x.addStation(30, 0, 1));
        Check.due("addStation(31, 0, 2)", 1, () -> x.addStation(31, 0, 2));
        Check.refused("lend(0, 1)", Check.STATE, () -> x.lend(0, 1));
        Check.due("lend(1, 0)", 1, () -> x.lend(1, 0));
        Check.due("addCloud(24, 35, 10, 12)", 0, () -> x.addCloud(24, 35, 10, 12));
        Check.due("station(0, 4)", 254848, () -> x.station(0, 4));
        Check.due("arrival(0, 0, 2, 5)", 5, () -> x.arrival(0, 0, 2, 5));
        Check.due("arrival(0, 1, 6, 24)", 48, () -> x.arrival(0, 1, 6, 24));
        Check.refused("send(0, 0, 1, 0)", Check.ARGUMENT, () -> x.send(0, 0, 1, 0));
        Check.due("blocker(0, 1)", -1, () -> x.blocker(0, 1));
    }
}
