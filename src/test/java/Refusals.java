/** Which exception the document wants for a call on the model's state: its simple name, or null if there is none. */
final class Refusals {
    private final Model m;

    Refusals(Model m) {
        this.m = m;
    }

    private static boolean in(int v, int low, int high) {
        return low <= v && v <= high;
    }

    private static boolean cell(int c) {
        return in(c, 0, 143);
    }

    private boolean has(int station) {
        return in(station, 0, m.places.size() - 1);
    }

    private boolean hasMessage(int message) {
        return in(message, 0, m.letters.size() - 1);
    }

    private static String first(boolean index, boolean argument, boolean state) {
        return index ? Check.INDEX : argument ? Check.ARGUMENT : state ? Check.STATE : null;
    }

    String of(String name, int[] a) {
        switch (name) {
            case "setHeight":
                return first(!cell(a[0]), !in(a[1], 0, 500), false);
            case "hill":
                return first(!cell(a[0]), !in(a[1], 1, 500) || !in(a[2], 0, 11), false);
            case "append":
                return first(false, !in(a[0], 33, 126), m.buffer.length() == 40);
            case "load":
                return first(!cell(a[0]), !m.isComplete(),
                        m.isComplete() && cell(a[0]) && a[0] + m.heightsOfText().size() > 144);
            case "addStation":
                return first(!cell(a[0]), !in(a[1], 0, 50) || !in(a[2], 1, 2), m.isTaken(a[0]) || m.places.size() == 8);
            case "setMast":
                return first(!has(a[0]), !in(a[1], 0, 50), false);
            case "lend":
                return first(!has(a[0]) || !has(a[1]), false, has(a[0]) && has(a[1])
                        && (m.places.get(a[0]).mirrors == 1 || m.places.get(a[1]).mirrors == 2));
            case "addCloud":
                return first(!cell(a[0]) || !cell(a[1]), !in(a[2], 6, 17) || !in(a[3], a[2], 17), m.clouds.size() == 6);
            case "send":
                return first(!has(a[0]) || !has(a[1]), a[0] == a[1] || !in(a[2], 1, 6) || !in(a[3], 0, 71),
                        m.letters.size() == 20);
            case "cancel":
                return first(!hasMessage(a[0]), false, false);
            case "count":
                return first(false, !in(a[0], 0, 8), false);
            case "station":
                return first(!has(a[0]), !in(a[1], 0, 5), false);
            case "blocker":
            case "mastFor":
                return first(!has(a[0]) || !has(a[1]), a[0] == a[1], false);
            case "link":
                return first(!has(a[0]) || !has(a[1]), a[0] == a[1] || !in(a[2], 6, 17), false);
            case "bestCell":
                return first(false, !in(a[0], 0, 50), false);
            case "arrival":
                return first(!has(a[0]) || !has(a[1]), !in(a[2], 1, 6) || !in(a[3], 0, 71), false);
            case "message":
                return first(!hasMessage(a[0]), !in(a[1], 0, 5), false);
            case "hop":
                return first(!hasMessage(a[0]) || !in(a[1], 0, m.letters.get(a[0]).route.size() - 1), !in(a[2], 0, 2),
                        false);
            case "busy":
                return first(!has(a[0]), !in(a[1], 0, 71), false);
            default:
                return null;
        }
    }
}
