import java.util.Arrays;

/** Promise 28: digest. */
public final class Promise28DigestTest extends PromiseTests {

    private static final String HASH = "The hash starts at 1951. For each value v of the following list, in order,"
            + " the hash becomes 31 * hash + v, in long arithmetic with overflow.";
    private static final String VALUES = "The values are: count(0) to count(8); the heights of all cells; for each"
            + " station its properties 0 to 5; for each pair of different stations, ordered by the first one, then"
            + " by the second one, the result of blocker and the number of hours at which the first one can signal"
            + " to the second one; for each message its properties 0 to 5, and for each of its transmissions the"
            + " parts 0 to 2; the length of the buffer and each of its character codes.";

    public static void main(String[] args) {
        runAll(Promise28DigestTest.class);
    }

    private static long hash(int[]... lists) {
        long hash = 1951;
        for (int[] list : lists) {
            for (int value : list) {
                hash = 31 * hash + value;
            }
        }
        return hash;
    }

    private static int[] flat(int... exceptions) {
        int[] heights = new int[144];
        for (int i = 0; i < exceptions.length; i += 2) {
            heights[exceptions[i]] = exceptions[i + 1];
        }
        return heights;
    }

    @Sentence({"Computes a hash of the whole state.", HASH, VALUES, "Returns the hash."})
    static void ofANewObject() {
        int[] counts = {0, 0, 0, 0, 0, 0, 0, 0, NONE};
        new Run().due(hash(counts, flat(), new int[] {0}), "digest");
    }

    @Sentence(VALUES)
    static void theFirstAndTheLastHeight() {
        int[] counts = {0, 0, 0, 500, 501, 0, 0, 0, NONE};
        new Run().call("setHeight", 0, 1).call("setHeight", 143, 500)
                .due(hash(counts, flat(0, 1, 143, 500), new int[] {0}), "digest");
    }

    @Sentence(VALUES)
    static void aSingleStationHasNoPair() {
        int[] counts = {1, 0, 0, 7, 7, 1, 0, 0, NONE};
        new Run().call("setHeight", 9, 7).call("addStation", 9, 50, 2)
                .due(hash(counts, flat(9, 7), new int[] {9, 50, 2, 57, ALL_SUN, 0}, new int[] {0}), "digest");
    }

    @Sentence(VALUES)
    static void aBlockedPairAndOneThatSees() {
        // Half way between the two the line is at 3 1/2.
        int[] stations = {132, 0, 2, 0, ALL_SUN, 0, 134, 7, 2, 7, ALL_SUN, 0};
        new Run().call("addStation", 132, 0, 2).call("addStation", 134, 7, 2).call("setHeight", 133, 4)
                .due(hash(new int[] {2, 0, 0, 4, 4, 2, 0, 0, NONE}, flat(133, 4), stations, new int[] {133, 0, 133, 0},
                        new int[] {0}), "digest")
                .call("setHeight", 133, 3)
                .due(hash(new int[] {2, 0, 0, 3, 3, 2, 2, 0, NONE}, flat(133, 3), stations,
                        new int[] {NONE, 11, NONE, 11}, new int[] {0}), "digest");
    }

    @Sentence({HASH, VALUES})
    static void aBitOfEverything() {
        Run x = new Run().call("setHeight", 3, 4).call("addStation", 0, 50, 1).call("addStation", 11, 0, 2)
                .call("addStation", 132, 0, 2).call("addCloud", 11, 11, 7, 16).call("send", 0, 1, 2, 7).text("7,");
        int[] counts = {3, 1, 1, 4, 4, 2, 6, 4, 9};
        int[] stations = {
            0, 50, 1, 50, ALL_SUN, 2,
            11, 0, 2, 0, hour(17), 2,
            132, 0, 2, 0, ALL_SUN, 0
        };
        // The single mirror of 0 throws to the east at 7 to 11 (at noon 1 is too low), and to the south always.
        int[] pairs = {NONE, 5, NONE, 11, NONE, 1, NONE, 1, NONE, 11, NONE, 11};
        int[] message = {0, 1, 2, 7, 9, 1, 0, 1, 7};
        int[] buffer = {2, '7', ','};
        long due = hash(counts, flat(3, 4), stations, pairs, message, buffer);
        x.due(due, "digest").due(due, "digest");
    }

    @Sentence(VALUES)
    static void everyTransmissionOfAMessage() {
        Run x = new Run().stations(2, 60, 62).call("addStation", 49, 50, 2).call("setHeight", 61, 100)
                .call("send", 0, 1, 2, 10).call("send", 2, 0, 1, 6);
        int[] counts = {3, 0, 2, 100, 100, 3, 4, 10, 14};
        int day = ALL_SUN - hour(11) - hour(12) - hour(13);
        int[] stations = {60, 0, 2, 0, ALL_SUN, 3, 62, 0, 2, 0, ALL_SUN, 2, 49, 50, 2, 50, day, 5};
        int[] pairs = {61, 0, NONE, 11, 61, 0, NONE, 11, NONE, 8, NONE, 8};
        int[] messages = {0, 1, 2, 10, 14, 2, 0, 2, 10, 2, 1, 12, 2, 0, 1, 6, 7, 1, 2, 0, 6};
        x.due(hash(counts, flat(61, 100), stations, pairs, messages, new int[] {0}), "digest");
    }

    @Sentence(VALUES)
    static void aPairThatSeesOneWayOnly() {
        // From (0, 0) to (2, 1) over (1, 1), backwards over (1, 0).
        int[] counts = {2, 0, 0, 41, 82, 0, 1, 0, NONE};
        // Station 0 has no sun at 7 to 10 behind (1, 1), nor at 11 to 13 behind (0, 1); in the afternoon it has.
        int afternoon = hour(14) + hour(15) + hour(16) + hour(17);
        int[] stations = {0, 0, 1, 0, afternoon, 0, 14, 0, 1, 0, ALL_SUN, 0};
        // Station 1 throws by a single mirror to the west and north: 500 * ((12 - h) * -2 - 3), from 14 on.
        int[] pairs = {13, 0, NONE, 4};
        new Run().stations(1, 0, 14).call("setHeight", 13, 41).call("setHeight", 12, 41)
                .due(hash(counts, flat(12, 41, 13, 41), stations, pairs, new int[] {0}), "digest");
    }

    @Sentence(VALUES)
    static void aFullBuffer() {
        int[] counts = {0, 0, 0, 0, 0, 0, 0, 0, NONE};
        int[] codes = new int[40];
        Run x = new Run();
        for (int i = 0; i < 40; i++) {
            codes[i] = i % 2 == 0 ? 33 + i : 126 - i;
            x.call("append", codes[i]);
        }
        x.due(hash(counts, flat(), new int[] {40}, codes), "digest").call("clearBuffer")
                .due(hash(counts, flat(), new int[] {0}), "digest");
    }

    @Sentence({VALUES, "Computes a hash of the whole state."})
    static void aFullTelegraph() {
        int[] counts = {8, 6, 20, 500, 72000, 8, 56, 40, 26};
        int[] cells = {0, 11, 132, 143, 65, 66, 77, 78};
        int[] heights = new int[144];
        Arrays.fill(heights, 500);
        int[] stations = new int[48];
        int[] pairs = new int[112];
        int[] messages = new int[180];
        for (int i = 0; i < 8; i++) {
            int[] properties = {cells[i], 0, 2, 500, 0, i < 2 ? 20 : 0};
            System.arraycopy(properties, 0, stations, 6 * i, 6);
        }
        for (int i = 0; i < 56; i++) {
            pairs[2 * i] = NONE;
        }
        for (int i = 0; i < 20; i++) {
            int[] properties = {0, 1, 1, 6 + i, 7 + i, 1, 0, 1, 6 + i};
            System.arraycopy(properties, 0, messages, 9 * i, 9);
        }
        Run.full().due(hash(counts, heights, stations, pairs, messages, new int[] {40}, Run.FULL_TEXT.chars()
                .toArray()),
                "digest");
    }

    @Sentence("Computes a hash of the whole state.")
    static void itChangesNothing() {
        Run.some().call("digest").sameAs(Run.some());
    }

    @Sentence("A call that throws an exception changes nothing.")
    static void refusedCallsLeaveItAsItIs() {
        MirrorTelegraph before = Run.full().again();
        Run.full().refused(STATE, "append", 48).refused(STATE, "addStation", 1, 0, 1)
                .refused(STATE, "addCloud", 0, 0, 6, 6)
                .refused(STATE, "send", 0, 1, 1, 6).refused(STATE, "lend", 0, 1).refused(STATE, "load", 125)
                .refused(INDEX, "setHeight", 144, 0).refused(ARGUMENT, "hill", 0, 501, 0)
                .due(before.digest(), "digest");
    }
}
