/**
 * Maps of rooms as bytes: read, whatever bytes there are, by the number and place of the first
 * fault, and written in one way alone.
 */
public final class MapLumps {
    public static final int NONE = -1;

    private static final int NO_NUMBER = 100000;
    private static final int ROOM = 8192;
    private static final int MODULUS = 251;
    // One byte stands for SKY, for no BACK and for no TEXTURE.
    private static final int ABSENT = 255;

    private static final int MOST_VERTICES = 128;
    private static final int MOST_TEXTURES = 16;
    private static final int MOST_SECTORS = 32;
    private static final int MOST_WALLS = 128;

    private static final int COUNTS_AT = 3;
    private static final int HEAD_BYTES = 7;
    private static final int VERTEX_BYTES = 4;
    private static final int TEXTURE_HEAD_BYTES = 2;
    private static final int SECTOR_BYTES = 9;
    private static final int WALL_BYTES = 14;

    private static final int LOWEST_PLACE = -32768;
    private static final int HIGHEST_PLACE = 32767;
    private static final int HIGHEST_LEVEL = 1024;

    private static final int FAULT_END = 1;
    private static final int FAULT_MARK = 2;
    private static final int FAULT_NUMBER = 3;
    private static final int FAULT_CHECK = 4;
    private static final int FAULT_LEFT = 5;
    private static final int FAULT_MEETING = 6;

    private final Reader reader;
    private final Row input;
    private final Row output;
    private final RoomMap map;

    public MapLumps() {
        reader = new Reader();
        input = reader.source;
        output = new Row();
        map = new RoomMap();
    }

    public boolean give(long v, int n) {
        if (n < 1 || n > 8 || n > input.free()) {
            return false;
        }
        for (int left = n - 1; left >= 0; left--) {
            input.append((int) (v >>> (8 * left)));
        }
        return true;
    }

    public boolean cut(int n) {
        return input.shorten(n);
    }

    public boolean poke(int k, int b) {
        return input.put(k, b);
    }

    public int read() {
        int fault = reader.judge();
        if (fault == 0) {
            map.take(input);
        }
        return fault;
    }

    public int write() {
        if (!map.present) {
            return NONE;
        }
        // A map has one form in bytes, so those it was read from are those it is written as.
        output.copy(map.row);
        return output.size;
    }

    public boolean check() {
        int end = input.size - 2;
        if (end < 0) {
            return false;
        }
        int due = input.sums(end);
        input.put(end, due >> 8);
        input.put(end + 1, due);
        return true;
    }

    public int byteAt(int k, boolean into) {
        return into ? input.get(k) : output.get(k);
    }

    public int vertex(int k, boolean across) {
        if (k < 0 || k >= map.vertices) {
            return NO_NUMBER;
        }
        return map.row.signed(HEAD_BYTES + VERTEX_BYTES * k + (across ? 0 : 2));
    }

    public int texture(int k, int what) {
        if (k < 0 || k >= map.textures) {
            return NONE;
        }
        switch (what) {
            case 0:
                return map.width(k);
            case 1:
                return map.height(k);
            default:
                return what < 0 ? NONE : map.texel(k, (what - 2) >> 4, (what - 2) & 15);
        }
    }

    public int sector(int k, int what) {
        if (k < 0 || k >= map.sectors || what < 0 || what > 6) {
            return NO_NUMBER;
        }
        int at = map.sectorsAt + SECTOR_BYTES * k;
        return what < 2 ? map.row.signed(at + 2 * what) : map.row.get(at + 2 + what);
    }

    public int wall(int k, int what) {
        if (k < 0 || k >= map.walls || what < 0 || what > 14) {
            return NONE;
        }
        int at = map.wallsAt + WALL_BYTES * k;
        switch (what) {
            case 10:
                return map.row.get(at + 10) >> 4;
            case 11:
                return map.row.get(at + 10) & 15;
            default:
                // Both offsets share a byte, so what follows them lies one byte lower.
                return map.row.get(what < 10 ? at + what : at + what - 1);
        }
    }

    public int start(int what) {
        if (!map.present || what < 0 || what > 3) {
            return NO_NUMBER;
        }
        return what < 2 ? map.row.signed(map.startAt + 2 * what) : map.row.get(map.startAt + 2 + what);
    }

    public int look(int which) {
        switch (which) {
            case 0:
                return input.size;
            case 1:
                return output.size;
            case 2:
                return map.counted(map.vertices);
            case 3:
                return map.counted(map.textures);
            case 4:
                return map.counted(map.sectors);
            case 5:
                return map.counted(map.walls);
            case 6:
                return reader.fault;
            case 7:
                return reader.faultPlace;
            case 8:
                return reader.faultWall;
            default:
                return NONE;
        }
    }

    /** Up to ROOM bytes. */
    private static final class Row {
        private final byte[] cells = new byte[ROOM];
        private int size;

        int free() {
            return cells.length - size;
        }

        int get(int k) {
            return k >= 0 && k < size ? cells[k] & 255 : NONE;
        }

        boolean put(int k, int b) {
            if (k < 0 || k >= size) {
                return false;
            }
            cells[k] = (byte) b;
            return true;
        }

        void append(int b) {
            if (size < cells.length) {
                cells[size] = (byte) b;
                size++;
            }
        }

        boolean shorten(int n) {
            if (n < 0 || n > size) {
                return false;
            }
            size = n;
            return true;
        }

        /** Every row has the same room, so another one always fits. */
        void copy(Row other) {
            System.arraycopy(other.cells, 0, cells, 0, other.size);
            size = other.size;
        }

        int signed(int k) {
            int value = 256 * get(k) + get(k + 1);
            return value > HIGHEST_PLACE ? value - 65536 : value;
        }

        /** The CHECK of the first n bytes: 256 times its first byte and the second one. */
        int sums(int n) {
            int first = 0;
            int second = 0;
            for (int k = 0; k < n && k < size; k++) {
                first = (first + (cells[k] & 255)) % MODULUS;
                second = (second + first) % MODULUS;
            }
            return 256 * first + second;
        }
    }

    /** THE MAP: the bytes it was read from, and where its parts lie in them. */
    private static final class RoomMap {
        private final Row row = new Row();
        private final int[] texturesAt = new int[MOST_TEXTURES];
        private boolean present;
        // All 0 without a map, so that no part is found then.
        private int vertices;
        private int textures;
        private int sectors;
        private int walls;
        private int sectorsAt;
        private int wallsAt;
        private int startAt;

        /** The bytes must have been read without a fault. */
        void take(Row source) {
            row.copy(source);
            present = true;
            vertices = row.get(COUNTS_AT);
            textures = row.get(COUNTS_AT + 1);
            sectors = row.get(COUNTS_AT + 2);
            walls = row.get(COUNTS_AT + 3);
            int at = HEAD_BYTES + VERTEX_BYTES * vertices;
            for (int k = 0; k < textures && k < texturesAt.length; k++) {
                texturesAt[k] = at;
                at += TEXTURE_HEAD_BYTES + width(k) * height(k);
            }
            sectorsAt = at;
            wallsAt = sectorsAt + SECTOR_BYTES * sectors;
            startAt = wallsAt + WALL_BYTES * walls;
        }

        int counted(int count) {
            return present ? count : NONE;
        }

        int width(int k) {
            return 1 << row.get(textureAt(k));
        }

        int height(int k) {
            return 1 << row.get(textureAt(k) + 1);
        }

        int texel(int k, int down, int across) {
            int width = width(k);
            if (down < 0 || down >= height(k) || across < 0 || across >= width) {
                return NONE;
            }
            return row.get(textureAt(k) + TEXTURE_HEAD_BYTES + width * down + across);
        }

        private int textureAt(int k) {
            return k >= 0 && k < texturesAt.length ? texturesAt[k] : 0;
        }
    }

    /**
     * The INPUT, and the first fault that the latest reading saw in it. Once a fault is seen, no
     * byte is read any more and no later fault takes its place.
     */
    private static final class Reader {
        private final Row source = new Row();
        private final int[] xs = new int[MOST_VERTICES];
        private final int[] ys = new int[MOST_VERTICES];
        private final Span[] spans = new Span[MOST_WALLS];
        private int vertices;
        private int textures;
        private int sectors;
        private int walls;
        private int wallsAt;
        private int place;
        private int fault;
        private int faultPlace = NONE;
        private int faultWall = NONE;

        Reader() {
            for (int k = 0; k < spans.length; k++) {
                spans[k] = new Span();
            }
        }

        /** Reads the whole INPUT: the fault, or 0. */
        int judge() {
            place = 0;
            fault = 0;
            faultPlace = NONE;
            faultWall = NONE;
            passHead();
            passVertices();
            passTextures();
            passSectors();
            passWalls();
            passStart();
            passEnd();
            seekMeeting();
            return fault;
        }

        private void passHead() {
            expect(77, FAULT_MARK);
            expect(72, FAULT_MARK);
            expect(1, FAULT_MARK);
            vertices = small(0, MOST_VERTICES);
            textures = small(0, MOST_TEXTURES);
            sectors = small(1, MOST_SECTORS);
            walls = small(0, MOST_WALLS);
        }

        private void passVertices() {
            for (int k = 0; k < vertices && k < xs.length && fault == 0; k++) {
                xs[k] = wide(LOWEST_PLACE, HIGHEST_PLACE);
                int at = place;
                ys[k] = wide(LOWEST_PLACE, HIGHEST_PLACE);
                if (isTaken(k)) {
                    fail(FAULT_NUMBER, at);
                }
            }
        }

        /** Whether a vertex of a lower number is where vertex k is. */
        private boolean isTaken(int k) {
            for (int other = 0; other < k && k < xs.length; other++) {
                if (xs[other] == xs[k] && ys[other] == ys[k]) {
                    return true;
                }
            }
            return false;
        }

        private void passTextures() {
            for (int k = 0; k < textures && fault == 0; k++) {
                int width = 1 << small(0, 4);
                int height = 1 << small(0, 4);
                for (int texel = 0; texel < width * height && fault == 0; texel++) {
                    small(0, 15);
                }
            }
        }

        private void passSectors() {
            for (int k = 0; k < sectors && fault == 0; k++) {
                int floor = wide(-HIGHEST_LEVEL, HIGHEST_LEVEL);
                wide(floor + 1, HIGHEST_LEVEL);
                small(0, textures - 1);
                smallOrAbsent(textures - 1);
                small(0, 15);
                small(0, 3);
                small(0, 255);
            }
        }

        private void passWalls() {
            wallsAt = place;
            for (int k = 0; k < walls && k < spans.length && fault == 0; k++) {
                passWallEnds(spans[k]);
                small(0, sectors - 1);
                int back = smallOrAbsent(sectors - 1);
                passWallTextures(textures - 1);
                // No number is below 0: without a BACK, no TEXTURE can be there.
                passWallTextures(back == ABSENT ? -1 : textures - 1);
                small(0, 255);
                small(0, 3);
                small(0, 5);
                small(0, 255);
            }
        }

        private void passWallEnds(Span span) {
            int from = small(0, vertices - 1);
            int at = place;
            int to = small(0, vertices - 1);
            if (from == to) {
                fail(FAULT_NUMBER, at);
            }
            if (from < xs.length && to < xs.length) {
                span.lay(xs[from], ys[from], xs[to], ys[to]);
            }
        }

        private void passWallTextures(int highest) {
            for (int part = 0; part < 3; part++) {
                smallOrAbsent(highest);
            }
        }

        private void passStart() {
            wide(LOWEST_PLACE, HIGHEST_PLACE);
            wide(LOWEST_PLACE, HIGHEST_PLACE);
            small(0, 63);
            small(0, sectors - 1);
        }

        private void passEnd() {
            int due = source.sums(place);
            expect(due >> 8, FAULT_CHECK);
            expect(due & 255, FAULT_CHECK);
            if (place < source.size) {
                fail(FAULT_LEFT, place);
            }
        }

        private void seekMeeting() {
            for (int k = 1; k < walls && k < spans.length && fault == 0; k++) {
                for (int lower = 0; lower < k && fault == 0; lower++) {
                    if (spans[k].meets(spans[lower])) {
                        fail(FAULT_MEETING, wallsAt + WALL_BYTES * k);
                        faultWall = k;
                    }
                }
            }
        }

        /** The next byte; 0 if there is none, or behind a fault. */
        private int next() {
            if (fault != 0) {
                return 0;
            }
            int value = source.get(place);
            if (value == NONE) {
                fail(FAULT_END, source.size);
                return 0;
            }
            place++;
            return value;
        }

        private void expect(int due, int number) {
            int at = place;
            if (next() != due) {
                fail(number, at);
            }
        }

        /** A number of one byte; 0 behind a fault. */
        private int small(int lowest, int highest) {
            int at = place;
            return judged(next(), lowest, highest, at);
        }

        private int smallOrAbsent(int highest) {
            int at = place;
            int value = next();
            return value == ABSENT ? value : judged(value, 0, highest, at);
        }

        /** A number of two bytes; 0 behind a fault. */
        private int wide(int lowest, int highest) {
            int at = place;
            int high = next();
            int value = 256 * high + next();
            return judged(value > HIGHEST_PLACE ? value - 65536 : value, lowest, highest, at);
        }

        private int judged(int value, int lowest, int highest, int at) {
            if (value < lowest || value > highest) {
                fail(FAULT_NUMBER, at);
            }
            return fault == 0 ? value : 0;
        }

        private void fail(int number, int at) {
            if (fault == 0) {
                fault = number;
                faultPlace = at;
            }
        }
    }

    /** Where a WALL goes: from one place to another one. */
    private static final class Span {
        private int ax;
        private int ay;
        private int bx;
        private int by;
        private int left;
        private int right;
        private int bottom;
        private int top;

        void lay(int fromX, int fromY, int toX, int toY) {
            ax = fromX;
            ay = fromY;
            bx = toX;
            by = toY;
            left = Math.min(ax, bx);
            right = Math.max(ax, bx);
            bottom = Math.min(ay, by);
            top = Math.max(ay, by);
        }

        /** Whether there is a place in common that is not an end of both. */
        boolean meets(Span other) {
            if (boxesApart(other)) {
                return false;
            }
            if (ax == other.ax && ay == other.ay) {
                return sameWay(ax, ay, bx, by, other.bx, other.by);
            }
            if (ax == other.bx && ay == other.by) {
                return sameWay(ax, ay, bx, by, other.ax, other.ay);
            }
            if (bx == other.ax && by == other.ay) {
                return sameWay(bx, by, ax, ay, other.bx, other.by);
            }
            if (bx == other.bx && by == other.by) {
                return sameWay(bx, by, ax, ay, other.ax, other.ay);
            }
            // With boxes that touch, this holds for spans on one line too, where all sides are 0.
            return lineParts(other) && other.lineParts(this);
        }

        private boolean boxesApart(Span other) {
            return right < other.left || other.right < left || top < other.bottom || other.top < bottom;
        }

        /** Whether no side of this span's line holds both ends of the other one. */
        private boolean lineParts(Span other) {
            return side(other.ax, other.ay) * side(other.bx, other.by) <= 0;
        }

        private int side(int x, int y) {
            return Long.signum(turn(ax, ay, bx, by, x, y));
        }

        /** Whether p and q lie the same way from the corner. */
        private static boolean sameWay(int cornerX, int cornerY, int px, int py, int qx, int qy) {
            long along = (long) (px - cornerX) * (qx - cornerX) + (long) (py - cornerY) * (qy - cornerY);
            return along > 0 && turn(cornerX, cornerY, px, py, qx, qy) == 0;
        }

        private static long turn(int cornerX, int cornerY, int px, int py, int qx, int qy) {
            return (long) (px - cornerX) * (qy - cornerY) - (long) (py - cornerY) * (qx - cornerX);
        }
    }
}
