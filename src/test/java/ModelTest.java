import java.util.Random;

/** Long runs of calls, drawn from fixed seeds, on the program and on the model side by side. */
public final class ModelTest {

    private static final int RUNS = 120;
    private static final int CALLS = 500;

    // The calls that fill the state stand in the list several times.
    private static final String[] NAMES = {
        "begin", "setHeight", "setHeight", "setHeight", "hill", "hill", "append", "append", "append", "append", "append",
        "append", "append", "append", "clearBuffer", "firstError", "firstError", "load", "load", "load", "addStation",
        "addStation", "addStation", "addStation", "setMast", "setMast", "lend", "addCloud", "addCloud", "clearClouds",
        "send", "send", "send", "send", "send", "send", "send", "send", "cancel", "cancel", "reorder", "count", "count",
        "station", "station", "blocker", "blocker", "link", "link", "link", "mastFor", "mastFor", "bestCell", "arrival",
        "arrival", "message", "message", "hop", "hop", "busy", "busy", "workload", "digest"
    };

    private static final int[] WILD = {
        Integer.MIN_VALUE, -1000000000, -145, -13, -12, -2, -1, 0, 1, 2, 3, 5, 6, 7, 8, 9, 11, 12, 17, 18, 20, 21, 32, 33,
        40, 41, 50, 51, 71, 72, 126, 127, 143, 144, 145, 500, 501, 1000000000, Integer.MAX_VALUE - 1, Integer.MAX_VALUE
    };

    private static final String LIKELY = "0123450123451144,,,***,0956789+/:-";

    private final Random random;
    private final MirrorTelegraph program = new MirrorTelegraph();
    private final Model model = new Model();
    private final Refusals refusals = new Refusals(model);
    private final String run;
    private final int wildness;

    private ModelTest(int seed) {
        random = new Random(seed);
        run = "run " + seed;
        // Some runs keep to right arguments, so that the state grows; others are full of wrong ones.
        wildness = seed % 4 == 0 ? 20 : 2;
    }

    public static void main(String[] args) {
        for (int seed = 1; seed <= RUNS; seed++) {
            ModelTest test = new ModelTest(seed);
            for (int call = 0; call < CALLS; call++) {
                test.call(call);
            }
            Check.same(test.run + ": digest() at the end", Long.toString(test.model.digest()),
                    new Step("digest").outcomeOn(test.program));
        }
        Check.end();
    }

    private void call(int number) {
        String name = chosenName(number);
        int[] a = arguments(name);
        Step step = new Step(name, a);
        String refusal = refusals.of(name, a);
        String want = refusal == null ? modelAnswer(name, a) : "throws." + refusal;
        Check.same(run + ", call " + number + ": " + step, want, step.outcomeOn(program));
    }

    private String chosenName(int number) {
        String name = NAMES[random.nextInt(NAMES.length)];
        if (number < 8) {
            return "addStation";
        }
        // Beginning anew is for the later part of a run, and seldom, lest the state stay small.
        if (name.equals("begin") && (number < 250 || random.nextInt(6) != 0)) {
            return "addStation";
        }
        if (name.equals("clearBuffer") && fits(model.buffer) && random.nextInt(3) != 0) {
            return "append";
        }
        if (name.equals("load") && !model.isComplete() && random.nextInt(4) != 0) {
            return "append";
        }
        return name;
    }

    // ---- arguments

    private int between(int low, int high) {
        if (random.nextInt(100) < wildness) {
            return WILD[random.nextInt(WILD.length)];
        }
        if (random.nextInt(12) == 0) {
            return random.nextBoolean() ? low : high;
        }
        return low + random.nextInt(Math.max(1, high - low + 1));
    }

    private int someCell() {
        return between(0, 143);
    }

    private int someStation() {
        return between(0, Math.max(0, model.places.size() - 1));
    }

    private int someMessage() {
        return between(0, Math.max(0, model.letters.size() - 1));
    }

    private int[] arguments(String name) {
        switch (name) {
            case "setHeight":
                return new int[] {someCell(), random.nextBoolean() ? between(0, 60) : between(0, 500)};
            case "hill":
                return new int[] {someCell(), random.nextBoolean() ? between(1, 80) : between(1, 500), between(0, 5)};
            case "append":
                return new int[] {likelyCode()};
            case "load":
                return new int[] {random.nextInt(3) == 0 ? between(100, 143) : between(0, 110)};
            case "addStation":
                return new int[] {someCell(), between(0, 50), between(1, 2)};
            case "setMast":
                return new int[] {someStation(), between(0, 50)};
            case "lend":
            case "blocker":
            case "mastFor":
                return new int[] {someStation(), someStation()};
            case "addCloud":
                int from = between(6, 17);
                return new int[] {someCell(), someCell(), from, between(from, from < 17 ? Math.min(17, from + 3) : 17)};
            case "send":
            case "arrival":
                return new int[] {someStation(), someStation(), between(1, 6),
                    random.nextBoolean() ? between(0, 71) : between(0, 20)};
            case "cancel":
                return new int[] {someMessage()};
            case "count":
                return new int[] {between(0, 8)};
            case "station":
                return new int[] {someStation(), between(0, 5)};
            case "link":
                return new int[] {someStation(), someStation(), between(6, 17)};
            case "bestCell":
                return new int[] {between(0, 50)};
            case "message":
                return new int[] {someMessage(), between(0, 5)};
            case "hop":
                return new int[] {someMessage(), between(0, 2), between(0, 2)};
            case "busy":
                return new int[] {someStation(), between(0, 71)};
            default:
                return new int[0];
        }
    }

    private int likelyCode() {
        if (random.nextInt(20) == 0) {
            return between(33, 126);
        }
        int code = LIKELY.charAt(random.nextInt(LIKELY.length()));
        String grown = model.buffer + (char) code;
        // A text with an error grows to nothing: mostly a character is taken that the text can go on with.
        if (!fits(model.buffer) || fits(grown) || random.nextInt(8) == 0) {
            return code;
        }
        return fits(model.buffer + "0") ? '0' : fits(model.buffer + "1") ? '1' : ',';
    }

    private static boolean fits(String text) {
        Model other = new Model();
        other.buffer = text;
        return other.firstError() == text.length();
    }

    private String modelAnswer(String name, int[] a) {
        return name.equals("workload") ? Double.toString(model.workload()) : Long.toString(modelNumber(name, a));
    }

    private long modelNumber(String name, int[] a) {
        switch (name) {
            case "begin": return model.begin();
            case "setHeight": return model.setHeight(a[0], a[1]);
            case "hill": return model.hill(a[0], a[1], a[2]);
            case "append":
                model.buffer += (char) a[0];
                return model.buffer.length();
            case "clearBuffer":
                int before = model.buffer.length();
                model.buffer = "";
                return before;
            case "firstError": return model.firstError();
            case "load": return model.load(a[0]);
            case "addStation": return model.addStation(a[0], a[1], a[2]);
            case "setMast": return model.setMast(a[0], a[1]);
            case "lend": return model.lend(a[0], a[1]);
            case "addCloud": return model.addCloud(a[0], a[1], a[2], a[3]);
            case "clearClouds": return model.clearClouds();
            case "send": return model.send(a[0], a[1], a[2], a[3]);
            case "cancel": return model.cancel(a[0]);
            case "reorder": return model.reorder();
            case "count": return model.count(a[0]);
            case "station": return model.station(a[0], a[1]);
            case "blocker": return model.blocker(a[0], a[1]);
            case "link": return model.link(a[0], a[1], a[2]);
            case "mastFor": return model.mastFor(a[0], a[1]);
            case "bestCell": return model.bestCell(a[0]);
            case "arrival": return model.arrivals(a[0], a[2], a[3])[a[1]];
            case "message": return model.message(a[0], a[1]);
            case "hop": return model.hop(a[0], a[1], a[2]);
            case "busy": return model.busy(a[0], a[1]);
            case "digest": return model.digest();
            default: throw new IllegalStateException("no such call: " + name);
        }
    }
}
