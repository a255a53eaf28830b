import java.util.ArrayList;
import java.util.List;
import java.util.regex.Pattern;

/**
 * A second telegraph, written from the document alone and as slowly as its words, to compare the program with. It takes
 * right arguments for granted where Refusals has been asked before.
 */
final class Model {

    static final class Place {
        int cell;
        int mast;
        int mirrors;
    }

    static final class Transmission {
        int sender;
        int receiver;
        int first;
    }

    static final class Letter {
        int sender;
        int receiver;
        int length;
        int turn;
        int arrival;
        List<Transmission> route = new ArrayList<>();
    }

    private static final String HEIGHT = "(0|[1-9][0-9]?|[1-4][0-9][0-9]|500)";
    private static final String ITEM = HEIGHT + "(\\*([1-9][0-9]?|1[0-3][0-9]|14[0-4]))?";
    private static final Pattern TEXT = Pattern.compile(ITEM + "(," + ITEM + ")*");

    final int[][] ground = new int[12][12];
    final List<Place> places = new ArrayList<>();
    final List<int[]> clouds = new ArrayList<>();
    final List<Letter> letters = new ArrayList<>();
    String buffer = "";

    // ---- terrain

    int heightAt(int cell) {
        return ground[cell / 12][cell % 12];
    }

    int begin() {
        int before = places.size();
        for (int[] row : ground) {
            java.util.Arrays.fill(row, 0);
        }
        places.clear();
        clouds.clear();
        letters.clear();
        return before;
    }

    int setHeight(int cell, int height) {
        int before = heightAt(cell);
        ground[cell / 12][cell % 12] = height;
        return before;
    }

    int hill(int cell, int height, int radius) {
        int higher = 0;
        for (int y = 0; y < 12; y++) {
            for (int x = 0; x < 12; x++) {
                int d = Math.abs(x - cell % 12) + Math.abs(y - cell / 12);
                int h = height - d * Math.floorDiv(height, radius + 1);
                if (d <= radius && ground[y][x] < h) {
                    ground[y][x] = h;
                    higher++;
                }
            }
        }
        return higher;
    }

    // ---- text

    private static boolean isText(String s) {
        return TEXT.matcher(s).matches();
    }

    /** What can still become a text does so by one more digit, 1 behind a star or 0 behind a comma. */
    private static boolean beginsText(String s) {
        return s.isEmpty() || isText(s) || isText(s + "0") || isText(s + "1");
    }

    int firstError() {
        for (int i = 0; i < buffer.length(); i++) {
            if (!beginsText(buffer.substring(0, i + 1))) {
                return i;
            }
        }
        return buffer.length();
    }

    boolean isComplete() {
        return isText(buffer);
    }

    List<Integer> heightsOfText() {
        List<Integer> heights = new ArrayList<>();
        for (String item : buffer.split(",")) {
            String[] parts = item.split("\\*");
            int count = parts.length == 2 ? Integer.parseInt(parts[1]) : 1;
            for (int i = 0; i < count; i++) {
                heights.add(Integer.parseInt(parts[0]));
            }
        }
        return heights;
    }

    int load(int cell) {
        List<Integer> heights = heightsOfText();
        for (int i = 0; i < heights.size(); i++) {
            setHeight(cell + i, heights.get(i));
        }
        buffer = "";
        return heights.size();
    }

    // ---- stations and clouds

    boolean isTaken(int cell) {
        return places.stream().anyMatch(p -> p.cell == cell);
    }

    int addStation(int cell, int mast, int mirrors) {
        Place p = new Place();
        p.cell = cell;
        p.mast = mast;
        p.mirrors = mirrors;
        places.add(p);
        return places.size() - 1;
    }

    int setMast(int station, int mast) {
        int before = places.get(station).mast;
        places.get(station).mast = mast;
        return before;
    }

    int lend(int from, int to) {
        places.get(from).mirrors--;
        places.get(to).mirrors++;
        return twoMirrors();
    }

    int twoMirrors() {
        return (int) places.stream().filter(p -> p.mirrors == 2).count();
    }

    int addCloud(int first, int last, int from, int to) {
        clouds.add(new int[] {first, last, from, to});
        return clouds.size() - 1;
    }

    int clearClouds() {
        int before = clouds.size();
        clouds.clear();
        return before;
    }

    // ---- sight and sun

    private static int round(int v, int m) {
        double q = Math.abs((double) v / m);
        int whole = (int) Math.floor(q);
        int up = q - whole >= 0.5 ? whole + 1 : whole;
        return v < 0 ? -up : up;
    }

    int eye(int station) {
        return heightAt(places.get(station).cell) + places.get(station).mast;
    }

    int blockerFrom(int cell, int eye, int to) {
        int dx = places.get(to).cell % 12 - cell % 12;
        int dy = places.get(to).cell / 12 - cell / 12;
        int m = Math.max(Math.abs(dx), Math.abs(dy));
        for (int k = 1; k <= m - 1; k++) {
            int x = cell % 12 + round(k * dx, m);
            int y = cell / 12 + round(k * dy, m);
            if (ground[y][x] * m > eye * m + (eye(to) - eye) * k) {
                return 12 * y + x;
            }
        }
        return -1;
    }

    int blocker(int from, int to) {
        return blockerFrom(places.get(from).cell, eye(from), to);
    }

    private static int up(int hour) {
        return 6 - Math.abs(12 - hour);
    }

    private boolean lightBlocked(int station, int hour) {
        int cell = places.get(station).cell;
        int dx = 12 - hour;
        int m = Math.max(Math.abs(dx), 3);
        int k = 1;
        while (true) {
            int x = cell % 12 + round(k * dx, m);
            int y = cell / 12 + round(k * 3, m);
            if (x < 0 || y < 0 || x > 11 || y > 11) {
                return false;
            }
            if (ground[y][x] * m > eye(station) * m + 20 * up(hour) * k) {
                return true;
            }
            k++;
        }
    }

    private boolean cloudCovers(int station, int hour) {
        int x = places.get(station).cell % 12;
        int y = places.get(station).cell / 12;
        for (int[] c : clouds) {
            boolean inX = (x - c[0] % 12) * (x - c[1] % 12) <= 0;
            boolean inY = (y - c[0] / 12) * (y - c[1] / 12) <= 0;
            if (inX && inY && c[2] <= hour && hour <= c[3]) {
                return true;
            }
        }
        return false;
    }

    int link(int from, int to, int hour) {
        if (up(hour) <= 0) {
            return 1;
        }
        if (lightBlocked(from, hour)) {
            return 2;
        }
        if (cloudCovers(from, hour)) {
            return 3;
        }
        if (blocker(from, to) != -1) {
            return 4;
        }
        int dx = places.get(to).cell % 12 - places.get(from).cell % 12;
        int dy = places.get(to).cell / 12 - places.get(from).cell / 12;
        int thrown = 500 * ((12 - hour) * dx + 3 * dy) + up(hour) * (eye(to) - eye(from));
        return places.get(from).mirrors == 2 || thrown > 0 ? 0 : 5;
    }

    int sunHours(int station) {
        int set = 0;
        for (int h = 6; h <= 17; h++) {
            if (up(h) > 0 && !lightBlocked(station, h) && !cloudCovers(station, h)) {
                set += 1 << h;
            }
        }
        return set;
    }

    int mastFor(int from, int to) {
        int cell = places.get(from).cell;
        for (int mast = 0; mast <= 50; mast++) {
            if (blockerFrom(cell, heightAt(cell) + mast, to) == -1) {
                return mast;
            }
        }
        return -1;
    }

    int bestCell(int mast) {
        int best = -1;
        long bestRank = -1;
        for (int cell = 143; cell >= 0; cell--) {
            long seen = 0;
            for (int to = 0; to < places.size(); to++) {
                if (!isTaken(cell) && blockerFrom(cell, heightAt(cell) + mast, to) == -1) {
                    seen++;
                }
            }
            long rank = seen * 1000 + heightAt(cell);
            if (!isTaken(cell) && rank >= bestRank) {
                best = cell;
                bestRank = rank;
            }
        }
        return best;
    }

    // ---- messages

    int busy(int station, int turn) {
        for (int i = 0; i < letters.size(); i++) {
            for (Transmission t : letters.get(i).route) {
                boolean uses = t.sender == station || t.receiver == station;
                if (uses && t.first <= turn && turn < t.first + letters.get(i).length) {
                    return i;
                }
            }
        }
        return -1;
    }

    private boolean canTransmit(int u, int v, int n, int t) {
        if (t + n - 1 > 71) {
            return false;
        }
        for (int turn = t; turn < t + n; turn++) {
            if (link(u, v, 6 + turn / 6) != 0 || busy(u, turn) != -1 || busy(v, turn) != -1) {
                return false;
            }
        }
        return true;
    }

    private int leastStart(int u, int v, int n, int from) {
        for (int s = from; s <= 71; s++) {
            if (canTransmit(u, v, n, s)) {
                return s;
            }
        }
        return -1;
    }

    /** Lowers the arrivals until none of them can be lowered any more. */
    int[] arrivals(int from, int n, int turn) {
        int[] arrivals = new int[places.size()];
        java.util.Arrays.fill(arrivals, -1);
        arrivals[from] = turn;
        boolean changed = true;
        while (changed) {
            changed = false;
            for (int u = 0; u < arrivals.length; u++) {
                for (int v = 0; v < arrivals.length; v++) {
                    int s = u == v || arrivals[u] == -1 ? -1 : leastStart(u, v, n, arrivals[u]);
                    if (s != -1 && (arrivals[v] == -1 || s + n < arrivals[v])) {
                        arrivals[v] = s + n;
                        changed = true;
                    }
                }
            }
        }
        return arrivals;
    }

    int send(int from, int to, int n, int turn) {
        int[] arrivals = arrivals(from, n, turn);
        if (arrivals[to] == -1) {
            return -1;
        }
        Letter letter = new Letter();
        letter.sender = from;
        letter.receiver = to;
        letter.length = n;
        letter.turn = turn;
        letter.arrival = arrivals[to];
        int v = to;
        while (v != from) {
            Transmission t = new Transmission();
            t.receiver = v;
            t.sender = -1;
            for (int u = arrivals.length - 1; u >= 0; u--) {
                int s = u == v || arrivals[u] == -1 ? -1 : leastStart(u, v, n, arrivals[u]);
                if (s != -1 && s + n == arrivals[v]) {
                    t.sender = u;
                    t.first = s;
                }
            }
            letter.route.add(0, t);
            v = t.sender;
        }
        letters.add(letter);
        return letter.arrival;
    }

    int cancel(int message) {
        letters.remove(message);
        return letters.size();
    }

    int reorder() {
        List<Letter> again = new ArrayList<>(letters);
        again.sort((a, b) -> Integer.compare(a.length, b.length));
        letters.clear();
        for (Letter letter : again) {
            send(letter.sender, letter.receiver, letter.length, letter.turn);
        }
        return letters.size();
    }

    // ---- questions

    int busyTurns(int station) {
        int turns = 0;
        for (int t = 0; t < 72; t++) {
            turns += busy(station, t) == -1 ? 0 : 1;
        }
        return turns;
    }

    int count(int what) {
        int greatest = 0;
        int sum = 0;
        for (int cell = 0; cell < 144; cell++) {
            greatest = Math.max(greatest, heightAt(cell));
            sum += heightAt(cell);
        }
        int pairs = 0;
        int turns = 0;
        for (int u = 0; u < places.size(); u++) {
            turns += busyTurns(u);
            for (int v = 0; v < places.size(); v++) {
                pairs += u != v && blocker(u, v) == -1 ? 1 : 0;
            }
        }
        int latest = letters.stream().mapToInt(l -> l.arrival).max().orElse(-1);
        int[] numbers = {places.size(), clouds.size(), letters.size(), greatest, sum, twoMirrors(), pairs, turns, latest};
        return numbers[what];
    }

    int station(int station, int what) {
        Place p = places.get(station);
        int[] numbers = {p.cell, p.mast, p.mirrors, eye(station), sunHours(station), busyTurns(station)};
        return numbers[what];
    }

    int message(int message, int what) {
        Letter l = letters.get(message);
        int[] numbers = {l.sender, l.receiver, l.length, l.turn, l.arrival, l.route.size()};
        return numbers[what];
    }

    int hop(int message, int index, int what) {
        Transmission t = letters.get(message).route.get(index);
        int[] numbers = {t.sender, t.receiver, t.first};
        return numbers[what];
    }

    double workload() {
        return places.isEmpty() ? 0.0 : (double) count(7) / (72 * places.size());
    }

    long digest() {
        List<Integer> values = new ArrayList<>();
        for (int what = 0; what <= 8; what++) {
            values.add(count(what));
        }
        for (int cell = 0; cell < 144; cell++) {
            values.add(heightAt(cell));
        }
        for (int u = 0; u < places.size(); u++) {
            for (int what = 0; what <= 5; what++) {
                values.add(station(u, what));
            }
        }
        for (int u = 0; u < places.size(); u++) {
            for (int v = 0; v < places.size(); v++) {
                if (u != v) {
                    values.add(blocker(u, v));
                    int hours = 0;
                    for (int h = 6; h <= 17; h++) {
                        hours += link(u, v, h) == 0 ? 1 : 0;
                    }
                    values.add(hours);
                }
            }
        }
        for (int i = 0; i < letters.size(); i++) {
            for (int what = 0; what <= 5; what++) {
                values.add(message(i, what));
            }
            for (int j = 0; j < letters.get(i).route.size(); j++) {
                for (int what = 0; what <= 2; what++) {
                    values.add(hop(i, j, what));
                }
            }
        }
        values.add(buffer.length());
        for (char c : buffer.toCharArray()) {
            values.add((int) c);
        }
        long hash = 1951;
        for (int v : values) {
            hash = 31 * hash + v;
        }
        return hash;
    }
}
