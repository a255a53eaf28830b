/** The four examples of the document's description. */
public final class ExamplesTest {

    public static void main(String[] args) {
        sightAndMasts();
        threeStationsInARow();
        textHillAndBestCell();
        lentMirrorAndCloud();
        Check.end();
    }

    private static void sightAndMasts() {
        Run x = new Run();
        x.due(0, "addStation", 0, 10, 1);
        x.due(1, "addStation", 40, 10, 2);
        x.due(0, "setHeight", 13, 30);
        x.due(13, "blocker", 0, 1);
        x.due(37, "mastFor", 0, 1);
        x.due(4, "link", 0, 1, 9);
        x.due(4, "link", 1, 0, 12);
        x.due(30, "setHeight", 13, 0);
        x.due(0, "link", 0, 1, 9);
        x.due(1, "link", 0, 1, 6);
        x.due(262016, "station", 0, 4);
    }

    private static void threeStationsInARow() {
        Run x = new Run();
        x.due(0, "addStation", 60, 5, 2);
        x.due(1, "addStation", 65, 5, 1);
        x.due(2, "addStation", 71, 5, 1);
        x.due(9, "send", 0, 2, 3, 0);
        x.due(1, "message", 0, 5);
        x.due(6, "hop", 0, 0, 2);
        x.due(0, "busy", 0, 8);
        x.due(12, "send", 0, 2, 3, 0);
        x.due(71, "send", 2, 0, 1, 70);
        x.due(2, "cancel", 0);
        x.due(2, "reorder");
        x.due(0.037037037037037035, "workload");
    }

    private static void textHillAndBestCell() {
        Run x = new Run();
        x.due(1, "append", 53);
        x.due(2, "append", 48);
        x.due(3, "append", 42);
        x.due(4, "append", 51);
        x.due(4, "firstError");
        x.due(3, "load", 10);
        x.due(150, "count", 4);
        x.due(13, "hill", 66, 100, 2);
        x.due(66, "bestCell", 0);
        x.refused(Check.ARGUMENT, "load", 0);
        x.refused(Check.INDEX, "setHeight", 144, 0);
    }

    private static void lentMirrorAndCloud() {
        Run x = new Run();
        x.due(0, "addStation", 30, 0, 1);
        x.refused(Check.STATE, "addStation", 30, 0, 1);
        x.due(1, "addStation", 31, 0, 2);
        x.refused(Check.STATE, "lend", 0, 1);
        x.due(1, "lend", 1, 0);
        x.due(0, "addCloud", 24, 35, 10, 12);
        x.due(254848, "station", 0, 4);
        x.due(5, "arrival", 0, 0, 2, 5);
        x.due(48, "arrival", 0, 1, 6, 24);
        x.refused(Check.ARGUMENT, "send", 0, 0, 1, 0);
        x.due(-1, "blocker", 0, 1);
    }
}
