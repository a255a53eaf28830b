import java.util.ArrayList;
import java.util.List;

/** A run of calls on a new telegraph, each compared with the answer that is due. */
final class Run {

    private static final int CALL_LIMIT = 512;
    private static final List<Step> PROBES = probes();

    private final MirrorTelegraph telegraph = new MirrorTelegraph();
    private final List<Step> steps = new ArrayList<>();
    private int calls;

    /** Calls that together show the state: what it hashes to, what can be sent, what has room, what comes of it. */
    private static List<Step> probes() {
        List<Step> probes = new ArrayList<>();
        probes.add(new Step("digest"));
        for (int from = 0; from < 8; from++) {
            for (int to = 0; to < 8; to++) {
                probes.add(new Step("arrival", from, to, 2, 0));
            }
        }
        probes.add(new Step("firstError"));
        probes.add(new Step("append", '1'));
        probes.add(new Step("load", 0));
        probes.add(new Step("clearBuffer"));
        probes.add(new Step("bestCell", 7));
        probes.add(new Step("addStation", 5, 0, 1));
        probes.add(new Step("addCloud", 0, 143, 9, 9));
        probes.add(new Step("send", 0, 1, 1, 0));
        probes.add(new Step("digest"));
        probes.add(new Step("reorder"));
        probes.add(new Step("digest"));
        return probes;
    }

    // ---- calls

    private String outcome(Step step) {
        calls++;
        if (calls > CALL_LIMIT) {
            throw new IllegalStateException("a test makes more calls than an object is good for");
        }
        return step.outcomeOn(telegraph);
    }

    /** A call that prepares the state: it must not throw. */
    Run call(String name, int... arguments) {
        Step step = new Step(name, arguments);
        String got = outcome(step);
        Check.same(step + told() + " is not refused", "false", "" + got.startsWith("throws."));
        steps.add(step);
        return this;
    }

    Run due(Object want, String name, int... arguments) {
        Step step = new Step(name, arguments);
        Check.same(step + told(), String.valueOf(want), outcome(step));
        steps.add(step);
        return this;
    }

    /** The call must throw, and leave all as it is without the call. */
    Run refused(String exception, String name, int... arguments) {
        Step step = new Step(name, arguments);
        String due = "throws." + exception;
        Check.same(step + told(), due, outcome(step));
        MirrorTelegraph with = again();
        step.outcomeOn(with);
        compare(again(), with, "after the refused " + step + told());
        return this;
    }

    /** A call with its answer as a text shows them: the arguments between commas; a number, or "throws" and a name. */
    Run written(String answer, String name, String arguments) {
        if (answer.startsWith("throws ")) {
            return refused(answer.substring("throws ".length()), name, Step.arguments(arguments));
        }
        return due(answer, name, Step.arguments(arguments));
    }

    /** All is as after the other run. */
    void sameAs(Run other) {
        compare(other.again(), again(), "after what should come to the same" + told());
    }

    private static void compare(MirrorTelegraph due, MirrorTelegraph got, String when) {
        for (Step probe : PROBES) {
            Check.same(probe + " " + when, probe.outcomeOn(due), probe.outcomeOn(got));
        }
    }

    /** Another telegraph on which the same was done; what was refused left no trace, and is not done again. */
    MirrorTelegraph again() {
        if (steps.size() + 1 + PROBES.size() > CALL_LIMIT) {
            throw new IllegalStateException("a test makes more calls than an object is good for");
        }
        MirrorTelegraph other = new MirrorTelegraph();
        for (Step step : steps) {
            step.outcomeOn(other);
        }
        return other;
    }

    private String told() {
        return steps.isEmpty() ? " on a new object" : " behind " + steps;
    }

    // ---- states

    /** Appends the characters of a text. */
    Run text(String text) {
        for (int i = 0; i < text.length(); i++) {
            call("append", text.charAt(i));
        }
        return this;
    }

    /** Adds stations without masts, with one mirror or two, on these cells. */
    Run stations(int mirrors, int... cells) {
        for (int cell : cells) {
            call("addStation", cell, 0, mirrors);
        }
        return this;
    }

    /** Eight stations with two mirrors, four at the corners: on flat ground each can signal to each from turn 6 on. */
    static Run eightStations() {
        return new Run().stations(2, 0, 11, 132, 143, 65, 66, 77, 78);
    }

    /** Twenty messages from station 0 to station 1, one turn long, in the turns 6 to 25. */
    Run twentyMessages() {
        for (int i = 0; i < 20; i++) {
            call("send", 0, 1, 1, 6 + i);
        }
        return this;
    }

    Run sixClouds(int first, int last, int from, int to) {
        for (int i = 0; i < 6; i++) {
            call("addCloud", first, last, from, to);
        }
        return this;
    }

    static final String FULL_TEXT = "1,2,3,4,5,6,7,8,9,0,1,2,3,4,5,6,7,8,9,50";

    /** All that a telegraph can hold. */
    static Run full() {
        Run run = new Run();
        run.text("500*144").call("load", 0);
        run.stations(2, 0, 11, 132, 143, 65, 66, 77, 78);
        return run.twentyMessages().sixClouds(0, 143, 6, 17).text(FULL_TEXT);
    }

    /** A bit of everything: three stations, two clouds, three messages, heights, and a text that could be loaded. */
    static Run some() {
        Run run = new Run().call("setHeight", 100, 7).call("hill", 30, 40, 1);
        run.call("addStation", 0, 10, 2).call("addStation", 11, 50, 1).call("addStation", 60, 10, 1);
        run.call("send", 0, 1, 3, 6).call("send", 0, 2, 1, 20).call("send", 1, 0, 2, 40);
        return run.call("addCloud", 60, 60, 9, 10).call("addCloud", 0, 20, 17, 17).text("12,5*3");
    }

    // ---- several answers of one kind

    Run dueCounts(int... numbers) {
        for (int what = 0; what < numbers.length; what++) {
            due(numbers[what], "count", what);
        }
        return this;
    }

    Run dueStation(int station, int... properties) {
        for (int what = 0; what < properties.length; what++) {
            due(properties[what], "station", station, what);
        }
        return this;
    }

    Run dueMessage(int message, int... properties) {
        for (int what = 0; what < properties.length; what++) {
            due(properties[what], "message", message, what);
        }
        return this;
    }

    Run dueHop(int message, int index, int... parts) {
        for (int what = 0; what < parts.length; what++) {
            due(parts[what], "hop", message, index, what);
        }
        return this;
    }

    /** The message that makes a station busy, from a turn on: one number a turn. */
    Run dueBusy(int station, int first, int... messages) {
        for (int i = 0; i < messages.length; i++) {
            due(messages[i], "busy", station, first + i);
        }
        return this;
    }

    /** The heights from a cell on, which no call asks for: each is told by a change, and put back. */
    Run dueHeights(int first, int... heights) {
        for (int i = 0; i < heights.length; i++) {
            due(heights[i], "setHeight", first + i, 0);
            call("setHeight", first + i, heights[i]);
        }
        return this;
    }
}
