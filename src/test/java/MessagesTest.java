/** Promises 14 to 16: send, cancel, reorder. */
public final class MessagesTest {

    public static void main(String[] args) {
        sendStraight();
        sendAroundBusyTurns();
        sendAtTheEndOfTheDay();
        unreachableReceiver();
        sendOverARelay();
        lowestStationBefore();
        senderIsTheLowestBefore();
        waitForSunAtTheRelay();
        sevenTransmissions();
        routesAreKept();
        refusedSendings();
        twentyMessages();
        cancelMessages();
        refusedCancelling();
        reorderByLength();
        reorderLosesMessages();
        Check.end();
    }

    /** Stations with two mirrors at the corners of a flat terrain: all of them can signal to one another from turn 6 on. */
    private static MirrorTelegraph corners() {
        MirrorTelegraph x = new MirrorTelegraph();
        x.addStation(0, 0, 2);
        x.addStation(11, 0, 2);
        x.addStation(132, 0, 2);
        x.addStation(143, 0, 2);
        return x;
    }

    private static void dueMessage(MirrorTelegraph x, int message, int... properties) {
        for (int i = 0; i < properties.length; i++) {
            int what = i;
            Check.due("message(" + message + ", " + i + ")", properties[i], () -> x.message(message, what));
        }
    }

    private static void dueHop(MirrorTelegraph x, int message, int index, int... parts) {
        for (int i = 0; i < parts.length; i++) {
            int what = i;
            Check.due("hop(" + message + ", " + index + ", " + i + ")", parts[i], () -> x.hop(message, index, what));
        }
    }

    /** The message that makes a station busy, from a turn on: one number a turn. */
    private static void dueBusy(MirrorTelegraph x, int station, int first, int... messages) {
        for (int i = 0; i < messages.length; i++) {
            int turn = first + i;
            Check.due("busy(" + station + ", " + turn + ")", messages[i], () -> x.busy(station, turn));
        }
    }

    private static void sendStraight() {
        MirrorTelegraph x = corners();
        Check.due("send(0, 1, 2, 0) waits for the sun", 8, () -> x.send(0, 1, 2, 0));
        dueMessage(x, 0, 0, 1, 2, 0, 8, 1);
        dueHop(x, 0, 0, 0, 1, 6);
        dueBusy(x, 0, 4, -1, -1, 0, 0, -1);
        dueBusy(x, 1, 4, -1, -1, 0, 0, -1);
        dueBusy(x, 2, 5, -1, -1, -1);
        Check.due("send(3, 2, 6, 40)", 46, () -> x.send(3, 2, 6, 40));
        dueMessage(x, 1, 3, 2, 6, 40, 46, 1);
        dueHop(x, 1, 0, 3, 2, 40);
        Check.due("count(2)", 2, () -> x.count(2));
        Check.due("count(7)", 16, () -> x.count(7));
    }

    private static void sendAroundBusyTurns() {
        MirrorTelegraph x = new MirrorTelegraph();
        x.addStation(0, 0, 2);
        x.addStation(11, 0, 2);
        Check.due("a message at turn 8", 9, () -> x.send(0, 1, 1, 8));
        Check.due("three turns do not fit before it", 12, () -> x.send(0, 1, 3, 6));
        Check.due("two turns do", 8, () -> x.send(1, 0, 2, 6));
        Check.due("one turn does not any more", 13, () -> x.send(1, 0, 1, 6));
        dueBusy(x, 0, 5, -1, 2, 2, 0, 1, 1, 1, 3, -1);
        dueBusy(x, 1, 5, -1, 2, 2, 0, 1, 1, 1, 3, -1);
    }

    private static void sendAtTheEndOfTheDay() {
        MirrorTelegraph x = corners();
        Check.due("the last turn", 72, () -> x.send(0, 1, 1, 71));
        Check.due("two turns from the last one on", -1, () -> x.send(2, 3, 2, 71));
        Check.due("the last two turns", 72, () -> x.send(2, 3, 2, 70));
        Check.due("six turns from 67 on", -1, () -> x.send(0, 2, 6, 67));
        Check.due("two messages", 2, () -> x.count(2));
        Check.due("the latest arrival", 72, () -> x.count(8));
    }

    private static void unreachableReceiver() {
        MirrorTelegraph x = new MirrorTelegraph();
        x.addStation(60, 0, 2);
        x.addStation(62, 0, 2);
        x.setHeight(61, 100);
        long before = x.digest();
        Check.due("send(0, 1, 1, 0) behind a hill", -1, () -> x.send(0, 1, 1, 0));
        Check.due("it is not sent", before, () -> x.digest());
        x.setHeight(61, 0);
        x.addCloud(60, 60, 6, 17);
        Check.due("send(0, 1, 1, 0) below a cloud", -1, () -> x.send(0, 1, 1, 0));
        Check.due("send(1, 0, 1, 0) to below a cloud", 7, () -> x.send(1, 0, 1, 0));
    }

    private static void sendOverARelay() {
        MirrorTelegraph x = new MirrorTelegraph();
        x.addStation(60, 0, 2);
        x.addStation(62, 0, 2);
        x.addStation(49, 50, 2);
        x.setHeight(61, 100);
        // 49 is a neighbour of neither side's hill: from (0,5) and (2,5) it is one step to (1,4).
        Check.due("send(0, 1, 2, 10)", 14, () -> x.send(0, 1, 2, 10));
        dueMessage(x, 0, 0, 1, 2, 10, 14, 2);
        dueHop(x, 0, 0, 0, 2, 10);
        dueHop(x, 0, 1, 2, 1, 12);
        dueBusy(x, 0, 9, -1, 0, 0, -1);
        dueBusy(x, 1, 11, -1, 0, 0, -1);
        dueBusy(x, 2, 9, -1, 0, 0, 0, 0, -1);
        Check.due("busy turns", 8, () -> x.count(7));
    }

    private static void lowestStationBefore() {
        MirrorTelegraph x = corners();
        x.send(3, 1, 1, 6);
        // By 2 itself, from turn 7 on, and by the relay 0 the message is at 1 with turn 8: the relay is the lower one.
        Check.due("send(2, 1, 1, 6)", 8, () -> x.send(2, 1, 1, 6));
        dueMessage(x, 1, 2, 1, 1, 6, 8, 2);
        dueHop(x, 1, 0, 2, 0, 6);
        dueHop(x, 1, 1, 0, 1, 7);
    }

    private static void senderIsTheLowestBefore() {
        MirrorTelegraph x = corners();
        x.send(3, 1, 1, 6);
        Check.due("send(0, 1, 1, 6)", 8, () -> x.send(0, 1, 1, 6));
        dueMessage(x, 1, 0, 1, 1, 6, 8, 1);
        dueHop(x, 1, 0, 0, 1, 7);
    }

    private static void waitForSunAtTheRelay() {
        MirrorTelegraph x = new MirrorTelegraph();
        x.addStation(60, 0, 2);
        x.addStation(62, 0, 2);
        x.addStation(49, 50, 2);
        x.setHeight(61, 100);
        x.addCloud(49, 49, 8, 9);
        Check.due("the relay has no sun in hours 8 and 9", 27, () -> x.send(0, 1, 3, 9));
        dueHop(x, 0, 0, 0, 2, 9);
        dueHop(x, 0, 1, 2, 1, 24);
        dueBusy(x, 2, 8, -1, 0, 0, 0, -1);
    }

    /** Eight stations over a crest, of which each one sees only its neighbours. */
    private static void sevenTransmissions() {
        MirrorTelegraph x = new MirrorTelegraph();
        int[] heights = {0, 60, 110, 150, 180, 200, 210, 211};
        for (int i = 0; i < 8; i++) {
            x.setHeight(62 + i, heights[i]);
            x.addStation(62 + i, 0, 2);
        }
        Check.due("neighbours in sight", 14, () -> x.count(6));
        Check.due("send(0, 7, 1, 6)", 13, () -> x.send(0, 7, 1, 6));
        dueMessage(x, 0, 0, 7, 1, 6, 13, 7);
        for (int i = 0; i < 7; i++) {
            dueHop(x, 0, i, i, i + 1, 6 + i);
        }
        Check.refused("hop(0, 7, 0)", Check.INDEX, () -> x.hop(0, 7, 0));
        Check.due("send(7, 0, 6, 6)", 55, () -> x.send(7, 0, 6, 6));
        dueMessage(x, 1, 7, 0, 6, 6, 55, 7);
        dueHop(x, 1, 0, 7, 6, 13);
        dueHop(x, 1, 6, 1, 0, 49);
        Check.due("cancel(0)", 1, () -> x.cancel(0));
        dueMessage(x, 0, 7, 0, 6, 6, 55, 7);
        dueHop(x, 0, 6, 1, 0, 49);
        Check.due("reorder()", 1, () -> x.reorder());
        dueMessage(x, 0, 7, 0, 6, 6, 48, 7);
    }

    private static void routesAreKept() {
        MirrorTelegraph x = corners();
        x.send(0, 1, 3, 6);
        x.addCloud(0, 143, 6, 17);
        x.setHeight(5, 500);
        x.setMast(1, 50);
        dueMessage(x, 0, 0, 1, 3, 6, 9, 1);
        dueHop(x, 0, 0, 0, 1, 6);
        dueBusy(x, 0, 5, -1, 0, 0, 0, -1);
    }

    private static void refusedSendings() {
        MirrorTelegraph x = corners();
        int[] none = {-1, 4, Integer.MIN_VALUE, Integer.MAX_VALUE};
        for (int station : none) {
            Check.refusedWithoutTrace(x, "send(" + station + ", 0, 1, 6)", Check.INDEX, () -> x.send(station, 0, 1, 6));
            Check.refusedWithoutTrace(x, "send(0, " + station + ", 1, 6)", Check.INDEX, () -> x.send(0, station, 1, 6));
            Check.refused("send twice " + station, Check.INDEX, () -> x.send(station, station, 0, 72));
        }
        Check.refusedWithoutTrace(x, "send(1, 1, 1, 6)", Check.ARGUMENT, () -> x.send(1, 1, 1, 6));
        Check.refusedWithoutTrace(x, "send(0, 1, 0, 6)", Check.ARGUMENT, () -> x.send(0, 1, 0, 6));
        Check.refusedWithoutTrace(x, "send(0, 1, 7, 6)", Check.ARGUMENT, () -> x.send(0, 1, 7, 6));
        Check.refusedWithoutTrace(x, "send(0, 1, 1, -1)", Check.ARGUMENT, () -> x.send(0, 1, 1, -1));
        Check.refusedWithoutTrace(x, "send(0, 1, 1, 72)", Check.ARGUMENT, () -> x.send(0, 1, 1, 72));
    }

    private static void twentyMessages() {
        MirrorTelegraph x = corners();
        for (int i = 0; i < 20; i++) {
            int arrival = 7 + i;
            Check.due("message number " + i, arrival, () -> x.send(0, 1, 1, arrival - 1));
        }
        Check.refusedWithoutTrace(x, "message number 20", Check.STATE, () -> x.send(2, 3, 1, 6));
        Check.refusedWithoutTrace(x, "one that cannot arrive", Check.STATE, () -> x.send(2, 3, 6, 71));
        Check.refusedWithoutTrace(x, "one of a wrong length", Check.ARGUMENT, () -> x.send(2, 3, 7, 6));
        Check.refusedWithoutTrace(x, "one to itself", Check.ARGUMENT, () -> x.send(2, 2, 1, 6));
        Check.refusedWithoutTrace(x, "one to no station", Check.INDEX, () -> x.send(2, 4, 1, 6));
        Check.due("reorder() of 20", 20, () -> x.reorder());
        dueMessage(x, 19, 0, 1, 1, 25, 26, 1);
        Check.due("cancel(19)", 19, () -> x.cancel(19));
        Check.due("then there is room", 7, () -> x.send(2, 3, 1, 6));
        dueMessage(x, 19, 2, 3, 1, 6, 7, 1);
        Check.due("cancel(0) of 20", 19, () -> x.cancel(0));
        dueMessage(x, 18, 2, 3, 1, 6, 7, 1);
        dueHop(x, 18, 0, 2, 3, 6);
    }

    private static void cancelMessages() {
        MirrorTelegraph x = corners();
        x.send(0, 1, 2, 6);
        x.send(2, 3, 3, 6);
        x.send(0, 1, 1, 6);
        dueBusy(x, 0, 6, 0, 0, 2, -1);
        Check.due("cancel(1)", 2, () -> x.cancel(1));
        dueBusy(x, 2, 6, -1, -1, -1);
        dueBusy(x, 0, 6, 0, 0, 1, -1);
        dueBusy(x, 1, 6, 0, 0, 1, -1);
        dueMessage(x, 0, 0, 1, 2, 6, 8, 1);
        dueMessage(x, 1, 0, 1, 1, 6, 9, 1);
        dueHop(x, 1, 0, 0, 1, 8);
        Check.due("busy turns", 6, () -> x.count(7));
        Check.due("cancel(0)", 1, () -> x.cancel(0));
        dueBusy(x, 0, 6, -1, -1, 0, -1);
        dueMessage(x, 0, 0, 1, 1, 6, 9, 1);
        Check.due("its turns are free", 8, () -> x.send(1, 0, 2, 0));
        Check.due("cancel(0)", 1, () -> x.cancel(0));
        Check.due("cancel(0)", 0, () -> x.cancel(0));
        Check.due("no busy turns", 0, () -> x.count(7));
        Check.due("no arrival", -1, () -> x.count(8));
    }

    private static void refusedCancelling() {
        MirrorTelegraph x = corners();
        Check.refused("cancel(0) of none", Check.INDEX, () -> x.cancel(0));
        x.send(0, 1, 2, 6);
        int[] none = {-1, 1, 20, Integer.MIN_VALUE, Integer.MAX_VALUE};
        for (int message : none) {
            Check.refusedWithoutTrace(x, "cancel(" + message + ")", Check.INDEX, () -> x.cancel(message));
        }
    }

    private static void reorderByLength() {
        MirrorTelegraph x = new MirrorTelegraph();
        x.addStation(0, 0, 2);
        x.addStation(11, 0, 2);
        x.send(0, 1, 3, 6);
        x.send(0, 1, 1, 5);
        x.send(1, 0, 2, 6);
        x.send(1, 0, 1, 6);
        Check.due("the latest arrival before", 13, () -> x.count(8));
        Check.due("reorder()", 4, () -> x.reorder());
        dueMessage(x, 0, 0, 1, 1, 5, 7, 1);
        dueMessage(x, 1, 1, 0, 1, 6, 8, 1);
        dueMessage(x, 2, 1, 0, 2, 6, 10, 1);
        dueMessage(x, 3, 0, 1, 3, 6, 13, 1);
        dueHop(x, 3, 0, 0, 1, 10);
        dueBusy(x, 0, 5, -1, 0, 1, 2, 2, 3, 3, 3, -1);
        Check.due("reorder() again", 4, () -> x.reorder());
        dueMessage(x, 3, 0, 1, 3, 6, 13, 1);
    }

    private static void reorderLosesMessages() {
        MirrorTelegraph x = corners();
        x.send(0, 1, 6, 60);
        x.send(1, 0, 2, 6);
        x.send(0, 1, 6, 60);
        x.send(2, 3, 5, 60);
        x.setMast(0, 1);
        x.addCloud(0, 0, 16, 17);
        // The two messages of 0 have no sun from turn 60 on; the others arrive as before.
        Check.due("reorder()", 2, () -> x.reorder());
        dueMessage(x, 0, 1, 0, 2, 6, 8, 1);
        dueMessage(x, 1, 2, 3, 5, 60, 65, 1);
        Check.due("busy turns", 14, () -> x.count(7));
        Check.refused("message(2, 0)", Check.INDEX, () -> x.message(2, 0));
        x.addCloud(0, 143, 6, 17);
        Check.due("reorder() below clouds", 0, () -> x.reorder());
        Check.due("no busy turns", 0, () -> x.count(7));
    }
}
