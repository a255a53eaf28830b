/** Promise 14: send. */
public final class Promise14SendTest extends PromiseTests {

    private static final String NO_STATION = "Throws `IndexOutOfBoundsException` if one of the stations does not exist";
    private static final String OUT_OF_RANGE =
            "Throws `IllegalArgumentException` if both are the same, or length or turn is out of range";
    private static final String NO_ROOM = "Throws `IllegalStateException` if there are 20 messages";
    private static final String SEVERAL =
            "If several exceptions apply, the one that is named first in the throws clause is thrown.";
    private static final String RETURNS =
            "Returns its arrival at the receiver; NONE if it cannot arrive there (then it is not sent).";
    private static final String TURNS = "The day is divided into 72 turns, 0 to 71; turn t is in the hour 6 + t / 6,"
            + " rounded down.";
    private static final String POSSIBLE = "To transmit n turns long from one station to another one, beginning with"
            + " turn t, is possible if in each of the turns t to t + n - 1 (71 at most) the one can signal to the"
            + " other one, and both are not busy.";
    private static final String BUSY =
            "In each turn a station is busy if a message that has been sent uses it, as a sender or as a receiver.";
    private static final String BOOKED = "When a message is sent, all turns of the transmissions of its route become"
            + " busy for both stations of each.";
    private static final String ARRIVAL = "The arrival at a station is the least turn at which the station can have"
            + " the whole message: the turn given for the sender; for another station v, the least value of s + n,"
            + " where the transmission from a station u to v can begin with turn s, s is not less than the arrival"
            + " at u, and s is the least such turn.";
    private static final String ROUTE = "The route to the receiver goes backwards: the station before v is the lowest"
            + " station u by which the arrival at v comes about; its transmission to v begins with the least possible"
            + " turn that is not less than the arrival at u.";
    private static final String TWENTY =
            "There are at most 20 messages, numbered from 0 in the order in which they were sent.";
    private static final String KEEP =
            "Messages that have been sent keep their routes, whatever is changed afterwards.";

    public static void main(String[] args) {
        runAll(Promise14SendTest.class);
    }

    /** Two stations with two mirrors: from turn 6 on each can signal to the other one. */
    private static Run pair() {
        return new Run().stations(2, 0, 11);
    }

    /** Four such stations at the corners. */
    private static Run corners() {
        return new Run().stations(2, 0, 11, 132, 143);
    }

    /** Stations 0 and 1 behind a hill for one another, and station 2 with a mast, which sees both. */
    private static Run relay() {
        return new Run().stations(2, 60, 62).call("addStation", 49, 50, 2).call("setHeight", 61, 100);
    }

    /** Eight stations up a slope that grows flatter, of which each one sees only its neighbours. */
    private static Run slope() {
        Run x = new Run();
        int[] heights = {0, 60, 110, 150, 180, 200, 210, 211};
        for (int i = 0; i < 8; i++) {
            x.call("setHeight", 62 + i, heights[i]).call("addStation", 62 + i, 0, 2);
        }
        return x;
    }

    // ---- the arguments

    @Sentence({"- `from`: the sender", "- `to`: the receiver, another station"})
    static void theFirstAndTheLastStation() {
        Run.eightStations().due(7, "send", 0, 7, 1, 6).due(8, "send", 7, 0, 1, 6).dueMessage(0, 0, 7, 1, 6, 7, 1)
                .dueMessage(1, 7, 0, 1, 6, 8, 1);
    }

    @Sentence(NO_STATION)
    static void theStationBeforeTheFirst() {
        Run.some().refused(INDEX, "send", -1, 0, 1, 6).refused(INDEX, "send", 0, -1, 1, 6)
                .refused(INDEX, "send", MIN, 0, 1, 6).refused(INDEX, "send", 0, MIN, 1, 6)
                .refused(INDEX, "send", -1, -1, 1, 6);
    }

    @Sentence(NO_STATION)
    static void theStationBehindTheLast() {
        new Run().refused(INDEX, "send", 0, 0, 1, 6).refused(INDEX, "send", 0, 1, 1, 6);
        new Run().stations(2, 5).refused(INDEX, "send", 0, 1, 1, 6).refused(INDEX, "send", 1, 0, 1, 6);
        Run.some().refused(INDEX, "send", 3, 0, 1, 6).refused(INDEX, "send", 0, 3, 1, 6)
                .refused(INDEX, "send", MAX, 0, 1, 6).refused(INDEX, "send", 0, MAX, 1, 6);
        Run.eightStations().refused(INDEX, "send", 8, 0, 1, 6).refused(INDEX, "send", 0, 8, 1, 6)
                .refused(INDEX, "send", 8, 8, 1, 6);
    }

    @Sentence({OUT_OF_RANGE, "- `to`: the receiver, another station"})
    static void bothAreTheSame() {
        Run.some().refused(ARGUMENT, "send", 0, 0, 1, 6).refused(ARGUMENT, "send", 1, 1, 1, 6)
                .refused(ARGUMENT, "send", 2, 2, 6, 71);
        new Run().stations(2, 5).refused(ARGUMENT, "send", 0, 0, 1, 6);
    }

    @Sentence({"- `length`: n, 1 to 6", "a length of n turns (1 to 6)"})
    static void theLeastAndTheGreatestLength() {
        pair().due(7, "send", 0, 1, 1, 6).dueMessage(0, 0, 1, 1, 6, 7, 1).dueBusy(0, 5, NONE, 0, NONE);
        pair().due(12, "send", 0, 1, 6, 6).dueMessage(0, 0, 1, 6, 6, 12, 1).dueBusy(0, 5, NONE, 0, 0, 0, 0, 0, 0, NONE);
    }

    @Sentence(OUT_OF_RANGE)
    static void aLengthTooSmall() {
        Run.some().refused(ARGUMENT, "send", 0, 1, 0, 6).refused(ARGUMENT, "send", 0, 1, -1, 6)
                .refused(ARGUMENT, "send", 0, 1, MIN, 6);
    }

    @Sentence(OUT_OF_RANGE)
    static void aLengthTooLarge() {
        Run.some().refused(ARGUMENT, "send", 0, 1, 7, 6).refused(ARGUMENT, "send", 0, 1, MAX, 6);
    }

    @Sentence("- `turn`: the turn from which on it can be sent, 0 to 71")
    static void theFirstAndTheLastTurn() {
        pair().due(7, "send", 0, 1, 1, 0).dueMessage(0, 0, 1, 1, 0, 7, 1);
        pair().due(72, "send", 0, 1, 1, 71).dueMessage(0, 0, 1, 1, 71, 72, 1).dueHop(0, 0, 0, 1, 71);
    }

    @Sentence(OUT_OF_RANGE)
    static void aTurnTooSmall() {
        Run.some().refused(ARGUMENT, "send", 0, 1, 1, -1).refused(ARGUMENT, "send", 0, 1, 1, MIN);
    }

    @Sentence(OUT_OF_RANGE)
    static void aTurnTooLarge() {
        Run.some().refused(ARGUMENT, "send", 0, 1, 1, 72).refused(ARGUMENT, "send", 0, 1, 1, MAX);
    }

    @Sentence(SEVERAL)
    static void noStationAndAnythingElse() {
        Run.some().refused(INDEX, "send", 3, 3, 1, 6).refused(INDEX, "send", 0, 3, 0, 6)
                .refused(INDEX, "send", -1, 0, 7, 6)
                .refused(INDEX, "send", 0, -1, 1, 72).refused(INDEX, "send", 3, 0, 1, -1)
                .refused(INDEX, "send", MAX, MAX, MAX, MAX);
        Run.full().refused(INDEX, "send", 0, 8, 1, 6).refused(INDEX, "send", -1, -1, 0, 72);
    }

    @Sentence(SEVERAL)
    static void wrongArgumentsAndNoRoom() {
        Run.full().refused(ARGUMENT, "send", 2, 2, 1, 6).refused(ARGUMENT, "send", 0, 1, 0, 6)
                .refused(ARGUMENT, "send", 0, 1, 7, 6).refused(ARGUMENT, "send", 0, 1, 1, -1)
                .refused(ARGUMENT, "send", 0, 1, 1, 72);
    }

    // ---- twenty messages

    @Sentence(TWENTY)
    static void numbersFrom0To19() {
        Run x = corners();
        for (int i = 0; i < 20; i++) {
            x.due(7 + i, "send", 0, 1, 1, 6 + i).due(i + 1, "count", 2).due(i, "busy", 0, 6 + i);
        }
        for (int i = 0; i < 20; i++) {
            x.due(6 + i, "message", i, 3);
        }
    }

    @Sentence({NO_ROOM, TWENTY})
    static void theTwentiethHasRoomAndTheNextHasNot() {
        Run x = corners();
        for (int i = 0; i < 19; i++) {
            x.call("send", 0, 1, 1, 6 + i);
        }
        x.due(13, "send", 2, 3, 6, 7).refused(STATE, "send", 2, 3, 1, 60).refused(STATE, "send", 0, 1, 1, 6)
                .due(20, "count", 2).dueMessage(19, 2, 3, 6, 7, 13, 1);
    }

    @Sentence(NO_ROOM)
    static void evenOneThatCouldNotArriveIsRefusedThen() {
        corners().twentyMessages().refused(STATE, "send", 2, 3, 6, 71);
        Run.full().refused(STATE, "send", 0, 1, 1, 6);
    }

    @Sentence(NO_ROOM)
    static void thereIsRoomAgainWhenOneWasCancelled() {
        corners().twentyMessages().refused(STATE, "send", 2, 3, 1, 6).call("cancel", 7).due(7, "send", 2, 3, 1, 6)
                .dueMessage(19, 2, 3, 1, 6, 7, 1).refused(STATE, "send", 2, 3, 1, 6);
    }

    @Sentence({RETURNS, TWENTY})
    static void whatIsNotSentTakesNoNumberAndNoRoom() {
        Run x = corners();
        for (int i = 0; i < 19; i++) {
            x.due(NONE, "send", 2, 3, 6, 67).due(7 + i, "send", 0, 1, 1, 6 + i);
        }
        x.due(NONE, "send", 2, 3, 6, 67).due(19, "count", 2).due(7, "send", 2, 3, 1, 0).due(20, "count", 2);
    }

    // ---- what it returns

    @Sentence({RETURNS, "Sends a message."})
    static void itCannotArriveBehindAHill() {
        Run hidden = new Run().stations(2, 60, 62).call("setHeight", 61, 100);
        Run tried = new Run().stations(2, 60, 62).call("setHeight", 61, 100);
        tried.due(NONE, "send", 0, 1, 1, 0).due(NONE, "send", 1, 0, 6, 71).sameAs(hidden);
        tried.refused(INDEX, "message", 0, 0).dueCounts(2, 0, 0).due(0, "count", 7).due(NONE, "count", 8);
    }

    @Sentence(RETURNS)
    static void itCannotArriveFromBelowACloud() {
        pair().call("addCloud", 0, 0, 6, 17).due(NONE, "send", 0, 1, 1, 0).due(0, "count", 2)
                .due(7, "send", 1, 0, 1, 0).due(1, "count", 2);
    }

    @Sentence({RETURNS, POSSIBLE})
    static void itCannotArriveWhenTheDayIsOver() {
        pair().due(NONE, "send", 0, 1, 2, 71).due(72, "send", 0, 1, 2, 70);
        pair().due(NONE, "send", 0, 1, 6, 67).due(0, "count", 2).due(72, "send", 0, 1, 6, 66).dueHop(0, 0, 0, 1, 66)
                .dueBusy(1, 65, NONE, 0, 0, 0, 0, 0, 0);
    }

    @Sentence(RETURNS)
    static void itCannotArriveWhenAllTurnsAreBusy() {
        Run x = pair();
        for (int i = 0; i < 11; i++) {
            x.due(12 + 6 * i, "send", i % 2, 1 - i % 2, 6, 0);
        }
        x.due(NONE, "send", 0, 1, 1, 0).due(11, "count", 2).due(66, "station", 0, 5).due(66, "station", 1, 5);
        x.call("cancel", 4).due(NONE, "send", 0, 1, 1, 36).due(31, "send", 0, 1, 1, 0);
    }

    // ---- turns and hours

    @Sentence(TURNS)
    static void theSunIsUpFromTurn6On() {
        // Turn 5 is the last one of hour 6, turn 6 the first one of hour 7.
        pair().due(7, "send", 0, 1, 1, 5).dueHop(0, 0, 0, 1, 6);
        pair().due(7, "send", 0, 1, 1, 6).dueHop(0, 0, 0, 1, 6);
        pair().due(8, "send", 0, 1, 1, 7).dueHop(0, 0, 0, 1, 7);
        pair().due(8, "send", 0, 1, 2, 5).dueHop(0, 0, 0, 1, 6);
    }

    @Sentence(TURNS)
    static void anHourHasSixTurns() {
        for (int h = 8; h <= 16; h++) {
            int first = 6 * (h - 6);
            cloudedPair(h).due(first, "send", 0, 1, 1, first - 1);
            cloudedPair(h).due(first + 7, "send", 0, 1, 1, first);
            cloudedPair(h).due(first + 7, "send", 0, 1, 1, first + 5);
            cloudedPair(h).due(first + 7, "send", 0, 1, 1, first + 6);
            cloudedPair(h).due(first + 1, "send", 1, 0, 1, first);
        }
        cloudedPair(17).due(66, "send", 0, 1, 1, 65).due(NONE, "send", 0, 1, 1, 66).due(NONE, "send", 0, 1, 1, 71);
    }

    private static Run cloudedPair(int hour) {
        return pair().call("addCloud", 0, 0, hour, hour);
    }

    @Sentence(POSSIBLE)
    static void eachTurnOfATransmissionNeedsSun() {
        // Hour 8 begins with turn 12: two turns fit from 10 on, not from 11 on.
        cloudedPair(8).due(12, "send", 0, 1, 2, 10).dueHop(0, 0, 0, 1, 10);
        cloudedPair(8).due(20, "send", 0, 1, 2, 11).dueHop(0, 0, 0, 1, 18);
        cloudedPair(8).due(12, "send", 0, 1, 6, 6);
        cloudedPair(8).due(24, "send", 0, 1, 6, 7);
        cloudedPair(8).due(24, "send", 0, 1, 6, 17);
        cloudedPair(17).due(66, "send", 0, 1, 2, 64).due(NONE, "send", 1, 0, 6, 67);
        cloudedPair(17).due(NONE, "send", 0, 1, 2, 65);
    }

    @Sentence(POSSIBLE)
    static void aTransmissionMayGoOverTheEndOfAnHour() {
        pair().due(17, "send", 0, 1, 6, 11).dueBusy(0, 10, NONE, 0, 0, 0, 0, 0, 0, NONE);
    }

    @Sentence(POSSIBLE)
    static void aSingleMirrorThrowsEastwardsUpToTheLastTurnBeforeNoon() {
        new Run().stations(1, 0, 11).due(36, "send", 0, 1, 1, 35).due(NONE, "send", 0, 1, 1, 36);
        new Run().stations(1, 0, 11).due(36, "send", 0, 1, 2, 34).due(NONE, "send", 0, 1, 2, 35);
        new Run().stations(1, 0, 11).due(43, "send", 1, 0, 1, 0).dueHop(0, 0, 1, 0, 42);
    }

    // ---- busy turns

    @Sentence({BUSY, POSSIBLE})
    static void theSenderIsBusy() {
        corners().call("send", 0, 1, 2, 10).due(13, "send", 0, 3, 1, 10).dueHop(1, 0, 0, 3, 12);
        corners().call("send", 1, 0, 2, 10).due(13, "send", 0, 3, 1, 10).dueHop(1, 0, 0, 3, 12);
    }

    @Sentence({BUSY, POSSIBLE})
    static void theReceiverIsBusy() {
        corners().call("send", 0, 1, 2, 10).due(13, "send", 2, 1, 1, 10).dueHop(1, 0, 2, 1, 12);
        corners().call("send", 1, 0, 2, 10).due(13, "send", 2, 1, 1, 10).dueHop(1, 0, 2, 1, 12);
    }

    @Sentence(BUSY)
    static void othersAreNotBusy() {
        corners().call("send", 0, 1, 2, 10).due(12, "send", 2, 3, 2, 10).dueBusy(0, 9, NONE, 0, 0, NONE)
                .dueBusy(1, 9, NONE, 0, 0, NONE).dueBusy(2, 9, NONE, 1, 1, NONE).dueBusy(3, 9, NONE, 1, 1, NONE);
    }

    @Sentence(POSSIBLE)
    static void aGapMustBeWideEnough() {
        Run gap = pair().call("send", 0, 1, 2, 10).call("send", 0, 1, 2, 14);
        gap.due(14, "send", 0, 1, 2, 10).due(19, "send", 0, 1, 3, 10).due(10, "send", 0, 1, 4, 0)
                .due(20, "send", 1, 0, 1, 0);
        pair().call("send", 0, 1, 2, 10).call("send", 0, 1, 2, 14).due(19, "send", 0, 1, 3, 10);
        pair().call("send", 0, 1, 1, 8).due(8, "send", 1, 0, 2, 6);
        pair().call("send", 0, 1, 1, 8).due(12, "send", 1, 0, 3, 6);
    }

    @Sentence(BOOKED)
    static void allTurnsOfItAndNoOthers() {
        corners().call("send", 0, 1, 3, 20).dueBusy(0, 19, NONE, 0, 0, 0, NONE).dueBusy(1, 19, NONE, 0, 0, 0, NONE)
                .due(0, "station", 2, 5).due(3, "station", 0, 5).due(3, "station", 1, 5).due(6, "count", 7);
    }

    @Sentence(BOOKED)
    static void bothStationsOfEachTransmission() {
        relay().due(14, "send", 0, 1, 2, 10).dueBusy(0, 9, NONE, 0, 0, NONE, NONE, NONE)
                .dueBusy(1, 9, NONE, NONE, NONE, 0, 0, NONE).dueBusy(2, 9, NONE, 0, 0, 0, 0, NONE).due(8, "count", 7);
    }

    // ---- arrivals and routes

    @Sentence({ARRIVAL, ROUTE})
    static void overARelay() {
        relay().due(14, "send", 0, 1, 2, 10).dueMessage(0, 0, 1, 2, 10, 14, 2).dueHop(0, 0, 0, 2, 10)
                .dueHop(0, 1, 2, 1, 12);
    }

    @Sentence({ARRIVAL, ROUTE})
    static void theRelayWaitsForTheSun() {
        relay().call("addCloud", 49, 49, 8, 9).due(27, "send", 0, 1, 3, 9).dueHop(0, 0, 0, 2, 9).dueHop(0, 1, 2, 1, 24)
                .dueBusy(2, 8, NONE, 0, 0, 0, NONE);
    }

    @Sentence(ARRIVAL)
    static void theRelayMayHaveItTooLate() {
        // The relay's own sun ends with turn 11, the sender's does not: the message gets there and no farther.
        relay().call("addCloud", 49, 49, 8, 17).due(12, "send", 0, 1, 3, 6).dueHop(0, 1, 2, 1, 9);
        relay().call("addCloud", 49, 49, 8, 17).due(NONE, "send", 0, 1, 3, 7).due(10, "arrival", 0, 2, 3, 7);
        relay().call("addCloud", 49, 49, 6, 16).due(72, "send", 0, 1, 3, 66).dueHop(0, 1, 2, 1, 69);
        relay().call("addCloud", 49, 49, 6, 16).due(NONE, "send", 0, 1, 3, 67).due(70, "arrival", 0, 2, 3, 67);
    }

    @Sentence(ARRIVAL)
    static void aDetourThatIsEarlierThanTheStraightWay() {
        // At noon a single mirror does not throw to the east, but to the south, where one with two mirrors stands.
        Run x = new Run().stations(1, 0, 11).stations(2, 132);
        x.due(40, "send", 0, 1, 2, 36).dueMessage(0, 0, 1, 2, 36, 40, 2).dueHop(0, 0, 0, 2, 36).dueHop(0, 1, 2, 1, 38);
        Run y = new Run().stations(1, 0, 11).stations(2, 132);
        y.due(39, "send", 0, 1, 2, 35).dueMessage(0, 0, 1, 2, 35, 39, 2);
        Run z = new Run().stations(1, 0, 11).stations(2, 132);
        z.due(36, "send", 0, 1, 2, 34).dueMessage(0, 0, 1, 2, 34, 36, 1);
    }

    @Sentence(ARRIVAL)
    static void waitingMayBeEarlierThanADetour() {
        // Station 0 has sun again with turn 18; by 2 it would take until 20.
        new Run().stations(2, 0, 11, 132).call("addCloud", 0, 0, 7, 8).due(19, "send", 0, 1, 1, 6)
                .dueMessage(0, 0, 1, 1, 6, 19, 1);
    }

    @Sentence(ROUTE)
    static void theLowestStationBeforeTheReceiver() {
        // Station 1 is busy in turn 6. By 2 itself and by each of the relays the message is there with turn 8.
        corners().call("send", 3, 1, 1, 6).due(8, "send", 2, 1, 1, 6).dueMessage(1, 2, 1, 1, 6, 8, 2)
                .dueHop(1, 0, 2, 0, 6).dueHop(1, 1, 0, 1, 7);
    }

    @Sentence(ROUTE)
    static void theSenderIsTheLowestItself() {
        corners().call("send", 3, 1, 1, 6).due(8, "send", 0, 1, 1, 6).dueMessage(1, 0, 1, 1, 6, 8, 1)
                .dueHop(1, 0, 0, 1, 7);
    }

    @Sentence(ROUTE)
    static void aHigherRelayIsNotTaken() {
        // Stations 0 and 3 are busy in turn 6. By 2 the message would be there with turn 8 too, but 1 is lower than 2.
        corners().call("send", 0, 3, 1, 6).due(8, "send", 1, 3, 1, 6).dueMessage(1, 1, 3, 1, 6, 8, 1)
                .dueHop(1, 0, 1, 3, 7);
    }

    @Sentence(ROUTE)
    static void ofTheStationsInTheMiddleTheLowestToo() {
        // From 4 in the west over a hill: 1, 2 and 3 in a column all see both ends; 0 sees the receiver alone.
        Run x = new Run().call("addStation", 71, 0, 2).call("addStation", 42, 50, 2).call("addStation", 90, 50, 2)
                .call("addStation", 54, 50, 2).call("addStation", 60, 0, 2).call("setHeight", 65, 40);
        x.due(65, "blocker", 4, 0).due(10, "send", 4, 0, 2, 6).dueMessage(0, 4, 0, 2, 6, 10, 2).dueHop(0, 0, 4, 1, 6)
                .dueHop(0, 1, 1, 0, 8);
    }

    @Sentence(ROUTE)
    static void sevenTransmissions() {
        Run x = slope().due(14, "count", 6).due(13, "send", 0, 7, 1, 6).dueMessage(0, 0, 7, 1, 6, 13, 7);
        for (int i = 0; i < 7; i++) {
            x.dueHop(0, i, i, i + 1, 6 + i);
        }
        x.refused(INDEX, "hop", 0, 7, 0);
    }

    @Sentence(ROUTE)
    static void sevenTransmissionsToTheEndOfTheDay() {
        slope().due(72, "send", 7, 0, 6, 30).dueMessage(0, 7, 0, 6, 30, 72, 7).dueHop(0, 0, 7, 6, 30)
                .dueHop(0, 6, 1, 0, 66).due(12, "station", 3, 5).due(6, "station", 0, 5).due(6, "station", 7, 5)
                .due(84, "count", 7);
        slope().due(NONE, "send", 7, 0, 6, 31).due(67, "send", 7, 1, 6, 31);
    }

    // ---- routes are kept

    @Sentence(KEEP)
    static void whateverIsChanged() {
        Run x = relay().call("send", 0, 1, 2, 10);
        x.call("addCloud", 0, 143, 6, 17).call("setHeight", 61, 500).call("setMast", 2, 0).call("hill", 30, 500, 11);
        x.call("addStation", 61, 50, 2).call("clearClouds").dueMessage(0, 0, 1, 2, 10, 14, 2).dueHop(0, 0, 0, 2, 10)
                .dueHop(0, 1, 2, 1, 12).dueBusy(2, 9, NONE, 0, 0, 0, 0, NONE);
    }

    @Sentence(KEEP)
    static void otherMessagesChangeNothingInTheirRoutes() {
        corners().call("send", 0, 1, 2, 10).call("send", 0, 1, 2, 6).call("send", 2, 1, 6, 0)
                .dueMessage(0, 0, 1, 2, 10, 12, 1).dueHop(0, 0, 0, 1, 10).dueBusy(0, 9, NONE, 0, 0, NONE);
    }
}
