/** Promises 23 to 28: arrival, message, hop, busy, workload, digest. */
public final class TimetableTest {

    public static void main(String[] args) {
        arrivals();
        arrivalsOverRelays();
        refusedArrivals();
        refusedMessages();
        refusedHops();
        refusedTurns();
        workloads();
        digestOfASmallState();
        digestOfABlockedPair();
        digestTellsStatesApart();
        Check.end();
    }

    private static MirrorTelegraph pair() {
        MirrorTelegraph x = new MirrorTelegraph();
        x.addStation(0, 0, 2);
        x.addStation(11, 0, 2);
        return x;
    }

    private static void arrivals() {
        MirrorTelegraph x = pair();
        x.send(0, 1, 2, 8);
        long before = x.digest();
        Check.due("arrival at the sender", 0, () -> x.arrival(0, 0, 6, 0));
        Check.due("arrival at the sender in the last turn", 71, () -> x.arrival(1, 1, 6, 71));
        Check.due("arrival at the sender while it is busy", 8, () -> x.arrival(1, 1, 6, 8));
        Check.due("before a message", 8, () -> x.arrival(0, 1, 2, 0));
        Check.due("behind a message", 13, () -> x.arrival(0, 1, 3, 0));
        Check.due("arrival(1, 0, 6, 66)", 72, () -> x.arrival(1, 0, 6, 66));
        Check.due("arrival(1, 0, 6, 67)", -1, () -> x.arrival(1, 0, 6, 67));
        Check.due("an arrival changes nothing", before, () -> x.digest());
        x.setHeight(5, 1);
        Check.due("no sight", -1, () -> x.arrival(0, 1, 1, 0));
        x.setMast(0, 50);
        x.setMast(1, 50);
        Check.due("sight by masts", 7, () -> x.arrival(0, 1, 1, 0));
    }

    private static void arrivalsOverRelays() {
        MirrorTelegraph x = new MirrorTelegraph();
        int[] heights = {0, 60, 110, 150, 180, 200, 210, 211};
        for (int i = 0; i < 8; i++) {
            x.setHeight(62 + i, heights[i]);
            x.addStation(62 + i, 0, 2);
        }
        for (int i = 0; i < 8; i++) {
            int to = i;
            Check.due("arrival(3, " + i + ", 2, 20)", 20 + 2 * Math.abs(i - 3), () -> x.arrival(3, to, 2, 20));
        }
        Check.due("arrival(0, 7, 6, 30)", 72, () -> x.arrival(0, 7, 6, 30));
        Check.due("arrival(0, 7, 6, 31)", -1, () -> x.arrival(0, 7, 6, 31));
        Check.due("arrival(0, 6, 6, 31)", 67, () -> x.arrival(0, 6, 6, 31));
    }

    private static void refusedArrivals() {
        MirrorTelegraph x = pair();
        int[] none = {-1, 2, Integer.MIN_VALUE, Integer.MAX_VALUE};
        for (int station : none) {
            Check.refused("arrival from " + station, Check.INDEX, () -> x.arrival(station, 0, 1, 6));
            Check.refused("arrival to " + station, Check.INDEX, () -> x.arrival(0, station, 0, 72));
        }
        Check.refusedWithoutTrace(x, "arrival(0, 1, 0, 6)", Check.ARGUMENT, () -> x.arrival(0, 1, 0, 6));
        Check.refusedWithoutTrace(x, "arrival(0, 1, 7, 6)", Check.ARGUMENT, () -> x.arrival(0, 1, 7, 6));
        Check.refusedWithoutTrace(x, "arrival(0, 0, 1, -1)", Check.ARGUMENT, () -> x.arrival(0, 0, 1, -1));
        Check.refusedWithoutTrace(x, "arrival(0, 1, 1, 72)", Check.ARGUMENT, () -> x.arrival(0, 1, 1, 72));
    }

    private static void refusedMessages() {
        MirrorTelegraph x = pair();
        Check.refused("message(0, 0) of none", Check.INDEX, () -> x.message(0, 0));
        x.send(0, 1, 2, 8);
        Check.due("message(0, 5)", 1, () -> x.message(0, 5));
        int[] none = {-1, 1, Integer.MIN_VALUE, Integer.MAX_VALUE};
        for (int wrong : none) {
            Check.refusedWithoutTrace(x, "message(" + wrong + ", 6)", Check.INDEX, () -> x.message(wrong, 6));
            Check.refused("message(" + wrong + ", 0)", Check.INDEX, () -> x.message(wrong, 0));
        }
        Check.refusedWithoutTrace(x, "message(0, -1)", Check.ARGUMENT, () -> x.message(0, -1));
        Check.refusedWithoutTrace(x, "message(0, 6)", Check.ARGUMENT, () -> x.message(0, 6));
    }

    private static void refusedHops() {
        MirrorTelegraph x = pair();
        Check.refused("hop(0, 0, 0) of none", Check.INDEX, () -> x.hop(0, 0, 0));
        x.send(1, 0, 2, 8);
        Check.due("hop(0, 0, 0)", 1, () -> x.hop(0, 0, 0));
        Check.due("hop(0, 0, 1)", 0, () -> x.hop(0, 0, 1));
        Check.due("hop(0, 0, 2)", 8, () -> x.hop(0, 0, 2));
        int[] none = {-1, 1, Integer.MIN_VALUE, Integer.MAX_VALUE};
        for (int wrong : none) {
            Check.refusedWithoutTrace(x, "hop(" + wrong + ", 0, 0)", Check.INDEX, () -> x.hop(wrong, 0, 0));
            Check.refusedWithoutTrace(x, "hop(0, " + wrong + ", 3)", Check.INDEX, () -> x.hop(0, wrong, 3));
        }
        Check.refusedWithoutTrace(x, "hop(0, 0, -1)", Check.ARGUMENT, () -> x.hop(0, 0, -1));
        Check.refusedWithoutTrace(x, "hop(0, 0, 3)", Check.ARGUMENT, () -> x.hop(0, 0, 3));
    }

    private static void refusedTurns() {
        MirrorTelegraph x = pair();
        x.send(0, 1, 1, 71);
        Check.due("busy(0, 71)", 0, () -> x.busy(0, 71));
        Check.due("busy(1, 71)", 0, () -> x.busy(1, 71));
        Check.due("busy(1, 0)", -1, () -> x.busy(1, 0));
        Check.due("busy(1, 70)", -1, () -> x.busy(1, 70));
        int[] none = {-1, 2, Integer.MIN_VALUE, Integer.MAX_VALUE};
        for (int wrong : none) {
            Check.refusedWithoutTrace(x, "busy(" + wrong + ", 72)", Check.INDEX, () -> x.busy(wrong, 72));
        }
        Check.refusedWithoutTrace(x, "busy(0, -1)", Check.ARGUMENT, () -> x.busy(0, -1));
        Check.refusedWithoutTrace(x, "busy(0, 72)", Check.ARGUMENT, () -> x.busy(0, 72));
    }

    private static void workloads() {
        MirrorTelegraph x = pair();
        Check.dueDouble("no messages", 0.0, x.workload());
        x.send(0, 1, 1, 6);
        Check.dueDouble("2 of 144", 2.0 / 144, x.workload());
        Check.due("busy turns of 0", 1, () -> x.station(0, 5));
        x.send(0, 1, 6, 0);
        Check.dueDouble("14 of 144", 14.0 / 144, x.workload());
        Check.due("busy turns of 1", 7, () -> x.station(1, 5));
        x.addStation(60, 0, 1);
        Check.dueDouble("14 of 216", 14.0 / 216, x.workload());
        Check.due("busy turns of 2", 0, () -> x.station(2, 5));
        x.begin();
        Check.dueDouble("no stations", 0.0, x.workload());
    }

    private static void digestOfASmallState() {
        MirrorTelegraph x = pair();
        x.setHeight(3, 4);
        x.setMast(0, 50);
        x.lend(0, x.addStation(132, 0, 1));
        x.addCloud(11, 11, 7, 16);
        x.send(0, 1, 2, 7);
        Check.append(x, "7,");
        // On row 0 the stations are 0 (0,0), 1 (11,0) and 2 (0,11); cell 3 of height 4 lies between 0 and 1.
        int[] counts = {3, 1, 1, 4, 4, 2, 6, 4, 9};
        int[] stations = {
            0, 50, 1, 50, 262016, 2,
            11, 0, 2, 0, 1 << 17, 2,
            132, 0, 2, 0, 262016, 0
        };
        // 0 has a single mirror: eastwards at 7 to 11, as at noon the other one is lower; southwards always.
        int[] pairs = {-1, 5, -1, 11, -1, 1, -1, 1, -1, 11, -1, 11};
        int[] message = {0, 1, 2, 7, 9, 1, 0, 1, 7};
        int[] buffer = {2, '7', ','};
        int[] heights = new int[144];
        heights[3] = 4;
        long hash = 1951;
        int[][] lists = {counts, heights, stations, pairs, message, buffer};
        for (int[] list : lists) {
            for (int value : list) {
                hash = 31 * hash + value;
            }
        }
        long want = hash;
        Check.due("digest()", want, () -> x.digest());
        Check.due("digest() again", want, () -> x.digest());
    }

    private static void digestOfABlockedPair() {
        MirrorTelegraph x = new MirrorTelegraph();
        x.addStation(132, 0, 2);
        x.addStation(134, 7, 2);
        x.setHeight(133, 5);
        // Over the cell between them neither sees the other one: the line is at 3.5 there.
        int[][] lists = {
            {2, 0, 0, 5, 5, 2, 0, 0, -1}, new int[133], {5}, new int[10],
            {132, 0, 2, 0, 262016, 0, 134, 7, 2, 7, 262016, 0},
            {133, 0, 133, 0},
            {0}
        };
        long hash = 1951;
        for (int[] list : lists) {
            for (int value : list) {
                hash = 31 * hash + value;
            }
        }
        long want = hash;
        Check.due("digest() of a blocked pair", want, () -> x.digest());
    }

    private static void digestTellsStatesApart() {
        MirrorTelegraph x = pair();
        long before = x.digest();
        x.setHeight(143, 1);
        Check.same("another height", "true", "" + (x.digest() != before));
        x.setHeight(143, 0);
        Check.due("the same again", before, () -> x.digest());
        x.append('a');
        Check.same("another buffer", "true", "" + (x.digest() != before));
        x.clearBuffer();
        x.addCloud(0, 0, 6, 6);
        Check.same("a cloud", "true", "" + (x.digest() != before));
        x.clearClouds();
        x.send(0, 1, 1, 0);
        Check.same("a message", "true", "" + (x.digest() != before));
        x.cancel(0);
        Check.due("the same at the end", before, () -> x.digest());
    }
}
