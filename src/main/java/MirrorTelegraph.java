import java.util.Arrays;

/**
 * A telegraph of stations that signal with mirrors and sunlight. The face checks the arguments and throws; the classes
 * inside it hold the state, and make all their rows when they are made, so that no call makes an object.
 */
public final class MirrorTelegraph {

    public static final int NONE = -1;

    private static final int SIDE = 12;
    private static final int CELLS = SIDE * SIDE;
    private static final int HEIGHT_LIMIT = 500;
    private static final int RADIUS_LIMIT = 11;
    private static final int MAST_LIMIT = 50;
    private static final int STATION_LIMIT = 8;
    private static final int CLOUD_LIMIT = 6;
    private static final int MESSAGE_LIMIT = 20;
    private static final int LENGTH_LIMIT = 6;
    private static final int BUFFER_LIMIT = 40;
    private static final int FIRST_CODE = 33;
    private static final int LAST_CODE = 126;
    private static final int FIRST_HOUR = 6;
    private static final int LAST_HOUR = 17;
    private static final int TURNS = 72;

    private static final int COUNT_KINDS = 9;
    private static final int STATION_KINDS = 6;
    private static final int MESSAGE_KINDS = 6;
    private static final int HOP_KINDS = 3;

    private final Terrain terrain;
    private final HeightText text;
    private final Stations stations;
    private final Clouds clouds;
    private final Links links;
    private final Timetable timetable;
    private final Routes routes;

    public MirrorTelegraph() {
        terrain = new Terrain();
        text = new HeightText();
        stations = new Stations();
        clouds = new Clouds();
        links = new Links(terrain, stations, clouds);
        timetable = new Timetable();
        routes = new Routes(stations, links, timetable);
    }

    // ---- terrain

    public int begin() {
        int before = stations.size();
        terrain.flatten();
        stations.clear();
        clouds.clear();
        timetable.clear();
        return before;
    }

    public int setHeight(int cell, int height) throws IndexOutOfBoundsException, IllegalArgumentException {
        requireCell(cell);
        requireRange(height, 0, HEIGHT_LIMIT);
        int before = terrain.heightOf(cell);
        terrain.change(cell, height);
        return before;
    }

    public int hill(int cell, int height, int radius) throws IndexOutOfBoundsException, IllegalArgumentException {
        requireCell(cell);
        requireRange(height, 1, HEIGHT_LIMIT);
        requireRange(radius, 0, RADIUS_LIMIT);
        return terrain.raise(cell, height, radius);
    }

    public int append(int code) throws IllegalArgumentException, IllegalStateException {
        requireRange(code, FIRST_CODE, LAST_CODE);
        if (text.length() >= BUFFER_LIMIT) {
            throw new IllegalStateException("the buffer is full");
        }
        text.add(code);
        return text.length();
    }

    public int clearBuffer() {
        int before = text.length();
        text.clear();
        return before;
    }

    public int firstError() {
        return text.read();
    }

    public int load(int cell) throws IndexOutOfBoundsException, IllegalArgumentException, IllegalStateException {
        requireCell(cell);
        text.read();
        if (!text.isComplete()) {
            throw new IllegalArgumentException("the buffer is not a complete text");
        }
        int cells = text.cells();
        if (cells > CELLS - cell) {
            throw new IllegalStateException("there are not so many cells");
        }
        text.copyTo(terrain, cell);
        text.clear();
        return cells;
    }

    // ---- stations and clouds

    public int addStation(int cell, int mast, int mirrors)
            throws IndexOutOfBoundsException, IllegalArgumentException, IllegalStateException {
        requireCell(cell);
        requireRange(mast, 0, MAST_LIMIT);
        requireRange(mirrors, 1, 2);
        if (stations.isTaken(cell)) {
            throw new IllegalStateException("there is a station on the cell");
        }
        if (stations.size() >= STATION_LIMIT) {
            throw new IllegalStateException("there are 8 stations");
        }
        return stations.add(cell, mast, mirrors);
    }

    public int setMast(int station, int mast) throws IndexOutOfBoundsException, IllegalArgumentException {
        requireStation(station);
        requireRange(mast, 0, MAST_LIMIT);
        int before = stations.mastOf(station);
        stations.changeMast(station, mast);
        return before;
    }

    public int lend(int from, int to) throws IndexOutOfBoundsException, IllegalStateException {
        requireStation(from);
        requireStation(to);
        if (stations.mirrorsOf(from) != 2 || stations.mirrorsOf(to) != 1) {
            throw new IllegalStateException("no mirror to give, or no place for it");
        }
        stations.changeMirrors(from, 1);
        stations.changeMirrors(to, 2);
        return stations.withTwoMirrors();
    }

    public int addCloud(int first, int last, int from, int to)
            throws IndexOutOfBoundsException, IllegalArgumentException, IllegalStateException {
        requireCell(first);
        requireCell(last);
        requireRange(from, FIRST_HOUR, LAST_HOUR);
        requireRange(to, from, LAST_HOUR);
        if (clouds.size() >= CLOUD_LIMIT) {
            throw new IllegalStateException("there are 6 clouds");
        }
        return clouds.add(first, last, from, to);
    }

    public int clearClouds() {
        int before = clouds.size();
        clouds.clear();
        return before;
    }

    // ---- messages

    public int send(int from, int to, int length, int turn)
            throws IndexOutOfBoundsException, IllegalArgumentException, IllegalStateException {
        requirePair(from, to);
        requireRange(length, 1, LENGTH_LIMIT);
        requireRange(turn, 0, TURNS - 1);
        if (timetable.size() >= MESSAGE_LIMIT) {
            throw new IllegalStateException("there are 20 messages");
        }
        routes.lookAtLinks();
        return routes.post(from, to, length, turn);
    }

    public int cancel(int message) throws IndexOutOfBoundsException {
        requireMessage(message);
        timetable.remove(message);
        return timetable.size();
    }

    public int reorder() {
        routes.lookAtLinks();
        routes.postAllAgain();
        return timetable.size();
    }

    // ---- questions

    public int count(int what) throws IllegalArgumentException {
        requireRange(what, 0, COUNT_KINDS - 1);
        return numberOf(what);
    }

    public int station(int station, int what) throws IndexOutOfBoundsException, IllegalArgumentException {
        requireStation(station);
        requireRange(what, 0, STATION_KINDS - 1);
        return stationProperty(station, what);
    }

    public int blocker(int from, int to) throws IndexOutOfBoundsException, IllegalArgumentException {
        requirePair(from, to);
        return links.blockingCell(from, to);
    }

    public int link(int from, int to, int hour) throws IndexOutOfBoundsException, IllegalArgumentException {
        requirePair(from, to);
        requireRange(hour, FIRST_HOUR, LAST_HOUR);
        return links.obstacle(from, to, hour);
    }

    public int mastFor(int from, int to) throws IndexOutOfBoundsException, IllegalArgumentException {
        requirePair(from, to);
        return links.leastMast(from, to);
    }

    public int bestCell(int mast) throws IllegalArgumentException {
        requireRange(mast, 0, MAST_LIMIT);
        return links.cellWithMostInSight(mast);
    }

    public int arrival(int from, int to, int length, int turn)
            throws IndexOutOfBoundsException, IllegalArgumentException {
        requireStation(from);
        requireStation(to);
        requireRange(length, 1, LENGTH_LIMIT);
        requireRange(turn, 0, TURNS - 1);
        routes.lookAtLinks();
        routes.findArrivals(from, length, turn);
        return routes.arrivalAt(to);
    }

    public int message(int message, int what) throws IndexOutOfBoundsException, IllegalArgumentException {
        requireMessage(message);
        requireRange(what, 0, MESSAGE_KINDS - 1);
        return timetable.property(message, what);
    }

    public int hop(int message, int index, int what) throws IndexOutOfBoundsException, IllegalArgumentException {
        requireMessage(message);
        if (index < 0 || index >= timetable.hopsOf(message)) {
            throw new IndexOutOfBoundsException("no such transmission");
        }
        requireRange(what, 0, HOP_KINDS - 1);
        return timetable.hopPart(message, index, what);
    }

    public int busy(int station, int turn) throws IndexOutOfBoundsException, IllegalArgumentException {
        requireStation(station);
        requireRange(turn, 0, TURNS - 1);
        return timetable.bookedBy(station, turn);
    }

    public double workload() {
        int turns = TURNS * stations.size();
        if (turns == 0) {
            return 0.0;
        }
        return (double) timetable.allBusyTurns() / turns;
    }

    public long digest() {
        long hash = 1951;
        for (int what = 0; what < COUNT_KINDS; what++) {
            hash = hashWith(hash, numberOf(what));
        }
        for (int cell = 0; cell < CELLS; cell++) {
            hash = hashWith(hash, terrain.heightOf(cell));
        }
        hash = hashWithStations(hash);
        hash = hashWithPairs(hash);
        hash = hashWithMessages(hash);
        return hashWithText(hash);
    }

    // ---- the parts of the digest

    private static long hashWith(long hash, int value) {
        return 31 * hash + value;
    }

    private long hashWithStations(long before) {
        long hash = before;
        for (int station = 0; station < stations.size(); station++) {
            for (int what = 0; what < STATION_KINDS; what++) {
                hash = hashWith(hash, stationProperty(station, what));
            }
        }
        return hash;
    }

    private long hashWithPairs(long before) {
        long hash = before;
        for (int from = 0; from < stations.size(); from++) {
            int sun = links.sunHours(from);
            for (int to = 0; to < stations.size(); to++) {
                if (to != from) {
                    hash = hashWith(hash, links.blockingCell(from, to));
                    hash = hashWith(hash, Integer.bitCount(links.signalHours(from, to, sun)));
                }
            }
        }
        return hash;
    }

    private long hashWithMessages(long before) {
        long hash = before;
        for (int message = 0; message < timetable.size(); message++) {
            for (int what = 0; what < MESSAGE_KINDS; what++) {
                hash = hashWith(hash, timetable.property(message, what));
            }
            for (int index = 0; index < timetable.hopsOf(message); index++) {
                for (int what = 0; what < HOP_KINDS; what++) {
                    hash = hashWith(hash, timetable.hopPart(message, index, what));
                }
            }
        }
        return hash;
    }

    private long hashWithText(long before) {
        long hash = hashWith(before, text.length());
        for (int index = 0; index < text.length(); index++) {
            hash = hashWith(hash, text.codeAt(index));
        }
        return hash;
    }

    // ---- answers that both a question and the digest want

    private int numberOf(int what) {
        switch (what) {
            case 0: return stations.size();
            case 1: return clouds.size();
            case 2: return timetable.size();
            case 3: return terrain.greatest();
            case 4: return terrain.sum();
            case 5: return stations.withTwoMirrors();
            case 6: return links.pairsInSight();
            case 7: return timetable.allBusyTurns();
            default: return timetable.latestArrival();
        }
    }

    private int stationProperty(int station, int what) {
        switch (what) {
            case 0: return stations.cellOf(station);
            case 1: return stations.mastOf(station);
            case 2: return stations.mirrorsOf(station);
            case 3: return links.eyeOf(station);
            case 4: return links.sunHours(station);
            default: return timetable.busyTurns(station);
        }
    }

    // ---- checks of arguments

    private static void requireCell(int cell) {
        if (!Terrain.isCell(cell)) {
            throw new IndexOutOfBoundsException("no such cell");
        }
    }

    private void requireStation(int station) {
        if (!stations.has(station)) {
            throw new IndexOutOfBoundsException("no such station");
        }
    }

    private void requirePair(int from, int to) {
        requireStation(from);
        requireStation(to);
        if (from == to) {
            throw new IllegalArgumentException("both stations are the same");
        }
    }

    private void requireMessage(int message) {
        if (!timetable.has(message)) {
            throw new IndexOutOfBoundsException("no such message");
        }
    }

    private static void requireRange(int value, int least, int greatest) {
        if (value < least || value > greatest) {
            throw new IllegalArgumentException("an argument is out of range");
        }
    }

    /** The heights of the cells, and what stands above a line over them. */
    private static final class Terrain {
        private final int[] heights = new int[CELLS];

        static boolean isCell(int cell) {
            return cell >= 0 && cell < CELLS;
        }

        static int columnOf(int cell) {
            return cell % SIDE;
        }

        static int rowOf(int cell) {
            return cell / SIDE;
        }

        static int eastward(int from, int to) {
            return columnOf(to) - columnOf(from);
        }

        static int southward(int from, int to) {
            return rowOf(to) - rowOf(from);
        }

        /** Rounds halves away from zero. */
        private static int roundedQuotient(int value, int divisor) {
            if (divisor <= 0) {
                return 0;
            }
            int size = value < 0 ? -value : value;
            int rounded = (2 * size + divisor) / (2 * divisor);
            return value < 0 ? -rounded : rounded;
        }

        /** How many cells a step leads on in its longer direction. */
        static int reach(int dx, int dy) {
            return Math.max(Math.abs(dx), Math.abs(dy));
        }

        /**
         * The first one of the cells number 1 to last along a step, as long as they are on the terrain, that stands
         * above a line of light; NONE if none does. The line begins at the eye, and rises by rise in as many cells as
         * the step reaches; all is compared times this number, so that nothing is divided.
         */
        int firstAbove(int cell, int dx, int dy, int last, int eye, int rise) {
            int m = reach(dx, dy);
            for (int k = 1; k <= last; k++) {
                int x = columnOf(cell) + roundedQuotient(k * dx, m);
                int y = rowOf(cell) + roundedQuotient(k * dy, m);
                if (x < 0 || x >= SIDE || y < 0 || y >= SIDE) {
                    return NONE;
                }
                int between = SIDE * y + x;
                if (heights[between] * m > eye * m + rise * k) {
                    return between;
                }
            }
            return NONE;
        }

        int heightOf(int cell) {
            return isCell(cell) ? heights[cell] : 0;
        }

        void change(int cell, int height) {
            if (isCell(cell)) {
                heights[cell] = height;
            }
        }

        void flatten() {
            Arrays.fill(heights, 0);
        }

        int raise(int top, int height, int radius) {
            int drop = radius >= 0 ? height / (radius + 1) : 0;
            int raised = 0;
            for (int cell = 0; cell < CELLS; cell++) {
                int distance = Math.abs(eastward(top, cell)) + Math.abs(southward(top, cell));
                int slope = height - distance * drop;
                if (distance <= radius && heights[cell] < slope) {
                    heights[cell] = slope;
                    raised++;
                }
            }
            return raised;
        }

        int greatest() {
            int greatest = 0;
            for (int cell = 0; cell < CELLS; cell++) {
                greatest = Math.max(greatest, heights[cell]);
            }
            return greatest;
        }

        int sum() {
            int sum = 0;
            for (int cell = 0; cell < CELLS; cell++) {
                sum += heights[cell];
            }
            return sum;
        }
    }

    /** The buffer, and the items of the text of heights that it holds. */
    private static final class HeightText {
        private static final int REPEAT_LIMIT = 144;
        // An item takes a digit and the comma before it, so that a full buffer begins at most so many.
        private static final int ITEM_LIMIT = (BUFFER_LIMIT + 1) / 2;

        private static final int HEIGHT_DUE = 0;
        private static final int IN_HEIGHT = 1;
        private static final int REPEAT_DUE = 2;
        private static final int IN_REPEAT = 3;
        private static final int WRONG = 4;

        private final int[] codes = new int[BUFFER_LIMIT];
        private final int[] itemHeights = new int[ITEM_LIMIT];
        private final int[] itemRepeats = new int[ITEM_LIMIT];
        private int length;
        private int items;
        private int state;

        int length() {
            return length;
        }

        int codeAt(int index) {
            return index >= 0 && index < BUFFER_LIMIT ? codes[index] : 0;
        }

        void add(int code) {
            if (length >= 0 && length < BUFFER_LIMIT) {
                codes[length] = code;
                length++;
            }
        }

        void clear() {
            length = 0;
        }

        /** Reads the items up to the first syntax error, and returns its index; the length if there is none. */
        int read() {
            items = 0;
            state = HEIGHT_DUE;
            for (int index = 0; index < length; index++) {
                state = stateAfter(codeAt(index));
                if (state == WRONG) {
                    return index;
                }
            }
            return length;
        }

        /** Whether what was read is a text that may end there. */
        boolean isComplete() {
            return state == IN_HEIGHT || state == IN_REPEAT;
        }

        private int stateAfter(int code) {
            if (code >= '0' && code <= '9') {
                return stateAfterDigit(code - '0');
            }
            if (code == '*' && state == IN_HEIGHT) {
                return REPEAT_DUE;
            }
            if (code == ',' && isComplete()) {
                return HEIGHT_DUE;
            }
            return WRONG;
        }

        private int stateAfterDigit(int digit) {
            if (state == HEIGHT_DUE) {
                return beginItem(digit);
            }
            int item = items - 1;
            if (item < 0 || item >= ITEM_LIMIT) {
                return WRONG;
            }
            return state == IN_HEIGHT ? growHeight(item, digit) : growRepeat(item, digit);
        }

        private int beginItem(int digit) {
            if (items < 0 || items >= ITEM_LIMIT) {
                return WRONG;
            }
            itemHeights[items] = digit;
            itemRepeats[items] = 0;
            items++;
            return IN_HEIGHT;
        }

        private int growHeight(int item, int digit) {
            int grown = 10 * itemHeights[item] + digit;
            if (itemHeights[item] == 0 || grown > HEIGHT_LIMIT) {
                return WRONG;
            }
            itemHeights[item] = grown;
            return IN_HEIGHT;
        }

        private int growRepeat(int item, int digit) {
            int grown = 10 * itemRepeats[item] + digit;
            if (grown == 0 || grown > REPEAT_LIMIT) {
                return WRONG;
            }
            itemRepeats[item] = grown;
            return IN_REPEAT;
        }

        /** How many cells an item stands for: its count, which stays 0 while reading if it has none. */
        private int cellsOf(int item) {
            return Math.max(1, itemRepeats[item]);
        }

        int cells() {
            int cells = 0;
            for (int item = 0; item < items; item++) {
                cells += cellsOf(item);
            }
            return cells;
        }

        void copyTo(Terrain terrain, int first) {
            int cell = first;
            for (int item = 0; item < items; item++) {
                int end = cell + cellsOf(item);
                for (; cell < end; cell++) {
                    terrain.change(cell, itemHeights[item]);
                }
            }
        }
    }

    /** The stations with their cells, masts and mirrors. */
    private static final class Stations {
        private final int[] cells = new int[STATION_LIMIT];
        private final int[] masts = new int[STATION_LIMIT];
        private final int[] mirrors = new int[STATION_LIMIT];
        private int size;

        int size() {
            return size;
        }

        boolean has(int station) {
            return station >= 0 && station < size;
        }

        boolean isTaken(int cell) {
            for (int station = 0; station < size; station++) {
                if (cells[station] == cell) {
                    return true;
                }
            }
            return false;
        }

        int add(int cell, int mast, int mirrorCount) {
            int station = size;
            if (station < 0 || station >= STATION_LIMIT) {
                return NONE;
            }
            cells[station] = cell;
            masts[station] = mast;
            mirrors[station] = mirrorCount;
            size++;
            return station;
        }

        void clear() {
            size = 0;
        }

        int cellOf(int station) {
            return has(station) ? cells[station] : 0;
        }

        int mastOf(int station) {
            return has(station) ? masts[station] : 0;
        }

        int mirrorsOf(int station) {
            return has(station) ? mirrors[station] : 0;
        }

        void changeMast(int station, int mast) {
            if (has(station)) {
                masts[station] = mast;
            }
        }

        void changeMirrors(int station, int mirrorCount) {
            if (has(station)) {
                mirrors[station] = mirrorCount;
            }
        }

        int withTwoMirrors() {
            int found = 0;
            for (int station = 0; station < size; station++) {
                if (mirrors[station] == 2) {
                    found++;
                }
            }
            return found;
        }
    }

    /** The clouds: rectangles of cells with their hours. */
    private static final class Clouds {
        private final int[] wests = new int[CLOUD_LIMIT];
        private final int[] easts = new int[CLOUD_LIMIT];
        private final int[] norths = new int[CLOUD_LIMIT];
        private final int[] souths = new int[CLOUD_LIMIT];
        private final int[] firstHours = new int[CLOUD_LIMIT];
        private final int[] lastHours = new int[CLOUD_LIMIT];
        private int size;

        int size() {
            return size;
        }

        int add(int first, int last, int firstHour, int lastHour) {
            int cloud = size;
            if (cloud < 0 || cloud >= CLOUD_LIMIT) {
                return NONE;
            }
            wests[cloud] = Math.min(Terrain.columnOf(first), Terrain.columnOf(last));
            easts[cloud] = Math.max(Terrain.columnOf(first), Terrain.columnOf(last));
            norths[cloud] = Math.min(Terrain.rowOf(first), Terrain.rowOf(last));
            souths[cloud] = Math.max(Terrain.rowOf(first), Terrain.rowOf(last));
            firstHours[cloud] = firstHour;
            lastHours[cloud] = lastHour;
            size++;
            return cloud;
        }

        void clear() {
            size = 0;
        }

        boolean cover(int cell, int hour) {
            int x = Terrain.columnOf(cell);
            int y = Terrain.rowOf(cell);
            for (int cloud = 0; cloud < size; cloud++) {
                boolean inside = x >= wests[cloud] && x <= easts[cloud] && y >= norths[cloud] && y <= souths[cloud];
                if (inside && hour >= firstHours[cloud] && hour <= lastHours[cloud]) {
                    return true;
                }
            }
            return false;
        }
    }

    /** What the terrain, the sun, the clouds and the mirrors let the stations see and signal. */
    private static final class Links {
        private static final int NOON = 12;
        private static final int SUN_SOUTH = 3;
        private static final int SUN_RISE = 20;
        private static final int MIRROR_SCALE = 500;

        private static final int CLEAR = 0;
        private static final int SUN_NOT_UP = 1;
        private static final int LIGHT_BLOCKED = 2;
        private static final int CLOUD_COVERS = 3;
        private static final int SIGHT_BLOCKED = 4;
        private static final int MIRROR_TURNED = 5;

        private final Terrain terrain;
        private final Stations stations;
        private final Clouds clouds;

        Links(Terrain terrain, Stations stations, Clouds clouds) {
            this.terrain = terrain;
            this.stations = stations;
            this.clouds = clouds;
        }

        int eyeOf(int station) {
            return terrain.heightOf(stations.cellOf(station)) + stations.mastOf(station);
        }

        // ---- lines of sight

        int blockingCell(int from, int to) {
            return blockingCellFrom(stations.cellOf(from), eyeOf(from), to);
        }

        /** What blocks the line of sight from an eye on a cell to a station; the eye need not be a station's. */
        private int blockingCellFrom(int cell, int eye, int to) {
            int target = stations.cellOf(to);
            int dx = Terrain.eastward(cell, target);
            int dy = Terrain.southward(cell, target);
            return terrain.firstAbove(cell, dx, dy, Terrain.reach(dx, dy) - 1, eye, eyeOf(to) - eye);
        }

        int pairsInSight() {
            int pairs = 0;
            for (int from = 0; from < stations.size(); from++) {
                for (int to = 0; to < stations.size(); to++) {
                    if (to != from && blockingCell(from, to) == NONE) {
                        pairs++;
                    }
                }
            }
            return pairs;
        }

        int leastMast(int from, int to) {
            int cell = stations.cellOf(from);
            int ground = terrain.heightOf(cell);
            for (int mast = 0; mast <= MAST_LIMIT; mast++) {
                if (blockingCellFrom(cell, ground + mast, to) == NONE) {
                    return mast;
                }
            }
            return NONE;
        }

        int cellWithMostInSight(int mast) {
            int best = NONE;
            int bestSeen = 0;
            for (int cell = 0; cell < CELLS; cell++) {
                if (!stations.isTaken(cell)) {
                    int seen = stationsInSight(cell, mast);
                    boolean higher = terrain.heightOf(cell) > terrain.heightOf(best);
                    if (best == NONE || seen > bestSeen || seen == bestSeen && higher) {
                        best = cell;
                        bestSeen = seen;
                    }
                }
            }
            return best;
        }

        private int stationsInSight(int cell, int mast) {
            int eye = terrain.heightOf(cell) + mast;
            int seen = 0;
            for (int to = 0; to < stations.size(); to++) {
                if (blockingCellFrom(cell, eye, to) == NONE) {
                    seen++;
                }
            }
            return seen;
        }

        // ---- the sun

        private static int sunEast(int hour) {
            return NOON - hour;
        }

        private static int sunUp(int hour) {
            return 6 - Math.abs(NOON - hour);
        }

        private int sunObstacle(int station, int hour) {
            int up = sunUp(hour);
            if (up <= 0) {
                return SUN_NOT_UP;
            }
            int cell = stations.cellOf(station);
            // A line has left the terrain after fewer than SIDE cells.
            if (terrain.firstAbove(cell, sunEast(hour), SUN_SOUTH, SIDE - 1, eyeOf(station), SUN_RISE * up) != NONE) {
                return LIGHT_BLOCKED;
            }
            return clouds.cover(cell, hour) ? CLOUD_COVERS : CLEAR;
        }

        /** The hours at which a station has sun, bit h for hour h. */
        int sunHours(int station) {
            int hours = 0;
            for (int hour = FIRST_HOUR; hour <= LAST_HOUR; hour++) {
                if (sunObstacle(station, hour) == CLEAR) {
                    hours |= 1 << hour;
                }
            }
            return hours;
        }

        // ---- signals

        private boolean canThrow(int from, int to, int hour) {
            if (stations.mirrorsOf(from) == 2) {
                return true;
            }
            int dx = Terrain.eastward(stations.cellOf(from), stations.cellOf(to));
            int dy = Terrain.southward(stations.cellOf(from), stations.cellOf(to));
            int level = MIRROR_SCALE * (sunEast(hour) * dx + SUN_SOUTH * dy);
            return level + sunUp(hour) * (eyeOf(to) - eyeOf(from)) > 0;
        }

        /** Why a station cannot signal to another one, as the face's link numbers it. */
        int obstacle(int from, int to, int hour) {
            int sun = sunObstacle(from, hour);
            if (sun != CLEAR) {
                return sun;
            }
            if (blockingCell(from, to) != NONE) {
                return SIGHT_BLOCKED;
            }
            return canThrow(from, to, hour) ? CLEAR : MIRROR_TURNED;
        }

        /** Of the hours at which the first one has sun, those at which it can signal to the other one. */
        int signalHours(int from, int to, int sun) {
            if (blockingCell(from, to) != NONE) {
                return 0;
            }
            int hours = 0;
            for (int hour = FIRST_HOUR; hour <= LAST_HOUR; hour++) {
                if ((sun >> hour & 1) == 1 && canThrow(from, to, hour)) {
                    hours |= 1 << hour;
                }
            }
            return hours;
        }
    }

    /** The messages that have been sent, and the turns that they have booked. */
    private static final class Timetable {
        static final int SENDER = 0;
        static final int RECEIVER = 1;
        static final int LENGTH = 2;
        static final int TURN = 3;
        static final int ARRIVAL = 4;
        static final int HOPS = 5;

        // No route comes to a station twice, since it reaches each of them later than the one before.
        static final int HOP_LIMIT = STATION_LIMIT - 1;

        // A message's row: its properties 0 to 5, then the parts 0 to 2 of each transmission.
        private static final int ROW = MESSAGE_KINDS + HOP_KINDS * HOP_LIMIT;

        private final int[] rows = new int[MESSAGE_LIMIT * ROW];
        private final int[] bookings = new int[STATION_LIMIT * TURNS];
        private int size;

        Timetable() {
            Arrays.fill(bookings, NONE);
        }

        int size() {
            return size;
        }

        boolean has(int message) {
            return message >= 0 && message < size;
        }

        void clear() {
            size = 0;
            Arrays.fill(bookings, NONE);
        }

        int property(int message, int what) {
            if (!has(message) || what < 0 || what >= MESSAGE_KINDS) {
                return NONE;
            }
            return rows[ROW * message + what];
        }

        int hopsOf(int message) {
            return property(message, HOPS);
        }

        int hopPart(int message, int index, int what) {
            if (!has(message) || index < 0 || index >= HOP_LIMIT || what < 0 || what >= HOP_KINDS) {
                return NONE;
            }
            return rows[ROW * message + MESSAGE_KINDS + HOP_KINDS * index + what];
        }

        /** Enters a message that has no transmissions yet. */
        void enter(int sender, int receiver, int length, int turn, int arrival) {
            if (size < 0 || size >= MESSAGE_LIMIT) {
                return;
            }
            int row = ROW * size;
            rows[row + SENDER] = sender;
            rows[row + RECEIVER] = receiver;
            rows[row + LENGTH] = length;
            rows[row + TURN] = turn;
            rows[row + ARRIVAL] = arrival;
            rows[row + HOPS] = 0;
            size++;
        }

        /** Adds the next transmission of the message that was entered last, and books its turns. */
        void addHop(int sender, int receiver, int start) {
            int message = size - 1;
            int index = hopsOf(message);
            if (!has(message) || index < 0 || index >= HOP_LIMIT) {
                return;
            }
            int row = ROW * message;
            int part = row + MESSAGE_KINDS + HOP_KINDS * index;
            rows[part] = sender;
            rows[part + 1] = receiver;
            rows[part + 2] = start;
            rows[row + HOPS] = index + 1;
            int end = start + rows[row + LENGTH];
            bookTurns(sender, start, end, message);
            bookTurns(receiver, start, end, message);
        }

        private static boolean isPlace(int station, int turn) {
            return station >= 0 && station < STATION_LIMIT && turn >= 0 && turn < TURNS;
        }

        private void bookTurns(int station, int start, int end, int message) {
            for (int turn = start; turn < end; turn++) {
                if (isPlace(station, turn)) {
                    bookings[TURNS * station + turn] = message;
                }
            }
        }

        int bookedBy(int station, int turn) {
            return isPlace(station, turn) ? bookings[TURNS * station + turn] : NONE;
        }

        void remove(int message) {
            if (!has(message)) {
                return;
            }
            int next = message + 1;
            System.arraycopy(rows, ROW * next, rows, ROW * message, ROW * (size - next));
            size--;
            for (int place = 0; place < STATION_LIMIT * TURNS; place++) {
                if (bookings[place] == message) {
                    bookings[place] = NONE;
                } else if (bookings[place] > message) {
                    bookings[place]--;
                }
            }
        }

        int busyTurns(int station) {
            int booked = 0;
            for (int turn = 0; turn < TURNS; turn++) {
                if (bookedBy(station, turn) != NONE) {
                    booked++;
                }
            }
            return booked;
        }

        int allBusyTurns() {
            int booked = 0;
            for (int station = 0; station < STATION_LIMIT; station++) {
                booked += busyTurns(station);
            }
            return booked;
        }

        int latestArrival() {
            int latest = NONE;
            for (int message = 0; message < size; message++) {
                latest = Math.max(latest, property(message, ARRIVAL));
            }
            return latest;
        }
    }

    /** Finds the earliest routes of messages, and sends the messages by them. */
    private static final class Routes {
        private static final int TURNS_AN_HOUR = 6;
        private static final int REQUEST = 4;

        private final Stations stations;
        private final Links links;
        private final Timetable timetable;

        private final int[] hoursOfPairs = new int[STATION_LIMIT * STATION_LIMIT];
        private final int[] arrivals = new int[STATION_LIMIT];
        private final int[] route = new int[STATION_LIMIT];
        private final int[] requests = new int[MESSAGE_LIMIT * REQUEST];
        private int wantedLength;

        Routes(Stations stations, Links links, Timetable timetable) {
            this.stations = stations;
            this.links = links;
            this.timetable = timetable;
        }

        /** Takes down which pairs can signal at which hours; due before a search, after whatever changed since. */
        void lookAtLinks() {
            for (int from = 0; from < stations.size(); from++) {
                int sun = links.sunHours(from);
                for (int to = 0; to < stations.size(); to++) {
                    hoursOfPairs[STATION_LIMIT * from + to] = to == from ? 0 : links.signalHours(from, to, sun);
                }
            }
        }

        // ---- arrivals

        int arrivalAt(int station) {
            return stations.has(station) ? arrivals[station] : NONE;
        }

        /** Settles the stations by ascending arrivals: none that is settled later can bring the message earlier. */
        void findArrivals(int from, int length, int turn) {
            Arrays.fill(arrivals, NONE);
            wantedLength = length;
            if (stations.has(from)) {
                arrivals[from] = turn;
            }
            int settled = 0;
            for (int round = 0; round < STATION_LIMIT; round++) {
                int next = earliestUnsettled(settled);
                if (next == NONE) {
                    return;
                }
                settled |= 1 << next;
                passOn(next);
            }
        }

        private int earliestUnsettled(int settled) {
            int earliest = NONE;
            for (int station = 0; station < stations.size(); station++) {
                boolean open = (settled >> station & 1) == 0 && arrivals[station] != NONE;
                if (open && (earliest == NONE || arrivals[station] < arrivalAt(earliest))) {
                    earliest = station;
                }
            }
            return earliest;
        }

        private void passOn(int sender) {
            for (int receiver = 0; receiver < stations.size(); receiver++) {
                int end = earliestEnd(sender, receiver);
                if (end != NONE && (arrivals[receiver] == NONE || end < arrivals[receiver])) {
                    arrivals[receiver] = end;
                }
            }
        }

        /** When the other one has the whole message if the first one transmits it as early as it can; or NONE. */
        private int earliestEnd(int sender, int receiver) {
            int hours = hoursOfPair(sender, receiver);
            int run = 0;
            for (int turn = arrivalAt(sender); turn < TURNS; turn++) {
                int hour = FIRST_HOUR + turn / TURNS_AN_HOUR;
                boolean signals = (hours >> hour & 1) == 1;
                boolean free = timetable.bookedBy(sender, turn) == NONE && timetable.bookedBy(receiver, turn) == NONE;
                run = signals && free ? run + 1 : 0;
                if (run == wantedLength) {
                    return turn + 1;
                }
            }
            return NONE;
        }

        private int hoursOfPair(int sender, int receiver) {
            boolean known = stations.has(sender) && stations.has(receiver);
            return known ? hoursOfPairs[STATION_LIMIT * sender + receiver] : 0;
        }

        // ---- sending

        /** Sends a message if it can arrive; the face has seen to it that there is room for it. */
        int post(int from, int to, int length, int turn) {
            findArrivals(from, length, turn);
            int arrival = arrivalAt(to);
            if (arrival == NONE) {
                return NONE;
            }
            // The whole route is found before its first turn is booked, as the bookings would stand in its own way.
            int first = traceRoute(from, to);
            timetable.enter(from, to, length, turn, arrival);
            for (int place = first + 1; place < STATION_LIMIT; place++) {
                int receiver = route[place];
                timetable.addHop(route[place - 1], receiver, arrivalAt(receiver) - length);
            }
            return arrival;
        }

        /** Writes the stations of the route into the end of its row, and returns where the sender stands there. */
        private int traceRoute(int from, int to) {
            int place = STATION_LIMIT - 1;
            route[place] = to;
            while (place > 0 && route[place] != from) {
                route[place - 1] = stationBefore(route[place]);
                place--;
            }
            return place;
        }

        private int stationBefore(int receiver) {
            int arrival = arrivalAt(receiver);
            for (int sender = 0; sender < stations.size(); sender++) {
                if (arrivals[sender] != NONE && earliestEnd(sender, receiver) == arrival) {
                    return sender;
                }
            }
            return NONE;
        }

        /** Cancels all messages and sends them again, the shorter ones first. */
        void postAllAgain() {
            int wanted = takeRequests();
            timetable.clear();
            for (int length = 1; length <= LENGTH_LIMIT; length++) {
                for (int at = 0; at < REQUEST * wanted; at += REQUEST) {
                    if (requests[at + Timetable.LENGTH] == length) {
                        post(requests[at + Timetable.SENDER], requests[at + Timetable.RECEIVER], length,
                                requests[at + Timetable.TURN]);
                    }
                }
            }
        }

        private int takeRequests() {
            int wanted = Math.min(timetable.size(), MESSAGE_LIMIT);
            for (int message = 0; message < wanted; message++) {
                for (int what = 0; what < REQUEST; what++) {
                    requests[REQUEST * message + what] = timetable.property(message, what);
                }
            }
            return wanted;
        }
    }
}
