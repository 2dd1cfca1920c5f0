import java.util.ArrayList;
import java.util.Arrays;
import java.util.List;

/**
 * A second program for the document, written for plainness alone: the map is held as numbers, and
 * its bytes are made anew from them. MapLumps is tested against it.
 */
final class Model {
    private static final int[] SECTOR_SIZES = {2, 2, 1, 1, 1, 1, 1};
    private static final int[] START_SIZES = {2, 2, 1, 1};

    private final List<Integer> input = new ArrayList<>();
    private List<Integer> output = new ArrayList<>();
    private Parts map;
    private int fault;
    private int place = -1;
    private int meetingWall = -1;

    /** Numbers of a map, as the calls tell them. */
    private static final class Parts {
        final List<int[]> vertices = new ArrayList<>();
        final List<int[][]> textures = new ArrayList<>();
        final List<int[]> sectors = new ArrayList<>();
        final List<int[]> walls = new ArrayList<>();
        int[] start;
    }

    private static final class Fault extends Exception {
        private static final long serialVersionUID = 1;
        final int number;
        final int place;
        final int wall;

        Fault(int number, int place, int wall) {
            this.number = number;
            this.place = place;
            this.wall = wall;
        }
    }

    boolean give(long v, int n) {
        if (n < 1 || n > 8 || input.size() + n > 8192) {
            return false;
        }
        byte[] all = java.nio.ByteBuffer.allocate(8).putLong(v).array();
        for (int k = 8 - n; k < 8; k++) {
            input.add(all[k] & 255);
        }
        return true;
    }

    boolean cut(int n) {
        if (n < 0 || n > input.size()) {
            return false;
        }
        input.subList(n, input.size()).clear();
        return true;
    }

    boolean poke(int k, int b) {
        if (k < 0 || k >= input.size()) {
            return false;
        }
        input.set(k, b & 255);
        return true;
    }

    int read() {
        fault = 0;
        place = -1;
        meetingWall = -1;
        try {
            map = new Reading().whole();
        } catch (Fault seen) {
            fault = seen.number;
            place = seen.place;
            meetingWall = seen.wall;
        }
        return fault;
    }

    int write() {
        if (map == null) {
            return -1;
        }
        List<Integer> out = new ArrayList<>(Arrays.asList(77, 72, 1, map.vertices.size(),
            map.textures.size(), map.sectors.size(), map.walls.size()));
        for (int[] v : map.vertices) {
            put(out, v, new int[] {2, 2});
        }
        for (int[][] t : map.textures) {
            out.add(Integer.numberOfTrailingZeros(t[0].length));
            out.add(Integer.numberOfTrailingZeros(t.length));
            for (int[] row : t) {
                for (int texel : row) {
                    out.add(texel);
                }
            }
        }
        for (int[] s : map.sectors) {
            put(out, s, SECTOR_SIZES);
        }
        for (int[] w : map.walls) {
            for (int what = 0; what < 15; what++) {
                if (what == 10) {
                    out.add(16 * w[10] + w[11]);
                } else if (what != 11) {
                    out.add(w[what]);
                }
            }
        }
        put(out, map.start, START_SIZES);
        int[] sums = sums(out);
        out.add(sums[0]);
        out.add(sums[1]);
        output = out;
        return out.size();
    }

    private static void put(List<Integer> out, int[] numbers, int[] sizes) {
        for (int k = 0; k < numbers.length; k++) {
            int number = numbers[k] < 0 ? numbers[k] + 65536 : numbers[k];
            if (sizes[k] == 2) {
                out.add(number / 256);
            }
            out.add(number % 256);
        }
    }

    private static int[] sums(List<Integer> ahead) {
        long first = 0;
        long second = 0;
        for (int b : ahead) {
            first += b;
            second += first % 251;
        }
        return new int[] {(int) (first % 251), (int) (second % 251)};
    }

    boolean check() {
        int end = input.size() - 2;
        if (end < 0) {
            return false;
        }
        int[] sums = sums(input.subList(0, end));
        input.set(end, sums[0]);
        input.set(end + 1, sums[1]);
        return true;
    }

    int byteAt(int k, boolean into) {
        List<Integer> row = into ? input : output;
        return k < 0 || k >= row.size() ? -1 : row.get(k);
    }

    int vertex(int k, boolean across) {
        return map == null ? 100000 : number(map.vertices, k, across ? 0 : 1, 100000);
    }

    int texture(int k, int what) {
        if (map == null || k < 0 || k >= map.textures.size() || what < 0) {
            return -1;
        }
        int[][] texels = map.textures.get(k);
        if (what < 2) {
            return what == 0 ? texels[0].length : texels.length;
        }
        int row = (what - 2) / 16;
        int column = (what - 2) % 16;
        return row < texels.length && column < texels[0].length ? texels[row][column] : -1;
    }

    int sector(int k, int what) {
        return map == null ? 100000 : number(map.sectors, k, what, 100000);
    }

    int wall(int k, int what) {
        return map == null ? -1 : number(map.walls, k, what, -1);
    }

    int start(int what) {
        return map == null ? 100000 : number(Arrays.asList(map.start), 0, what, 100000);
    }

    private static int number(List<int[]> parts, int k, int what, int none) {
        if (k < 0 || k >= parts.size() || what < 0 || what >= parts.get(k).length) {
            return none;
        }
        return parts.get(k)[what];
    }

    int look(int which) {
        if (which >= 2 && which <= 5 && map == null) {
            return -1;
        }
        switch (which) {
            case 0: return input.size();
            case 1: return output.size();
            case 2: return map.vertices.size();
            case 3: return map.textures.size();
            case 4: return map.sectors.size();
            case 5: return map.walls.size();
            case 6: return fault;
            case 7: return place;
            case 8: return meetingWall;
            default: return -1;
        }
    }

    /** One reading of the INPUT. */
    private final class Reading {
        private final Parts parts = new Parts();
        private int at;

        private Parts whole() throws Fault {
            for (int due : new int[] {77, 72, 1}) {
                same(due, 2);
            }
            int vertices = one(0, 128);
            int textures = one(0, 16);
            int sectors = one(1, 32);
            int walls = one(0, 128);
            for (int k = 0; k < vertices; k++) {
                aVertex();
            }
            for (int k = 0; k < textures; k++) {
                aTexture();
            }
            for (int k = 0; k < sectors; k++) {
                aSector(textures);
            }
            int wallsAt = at;
            for (int k = 0; k < walls; k++) {
                aWall();
            }
            parts.start = new int[] {two(), two(), one(0, 63), one(0, sectors - 1)};
            int[] sums = sums(input.subList(0, at));
            same(sums[0], 4);
            same(sums[1], 4);
            if (at != input.size()) {
                throw new Fault(5, at, -1);
            }
            for (int k = 0; k < walls; k++) {
                for (int lower = 0; lower < k; lower++) {
                    if (meet(parts.walls.get(k), parts.walls.get(lower))) {
                        throw new Fault(6, wallsAt + 14 * k, k);
                    }
                }
            }
            return parts;
        }

        private void aVertex() throws Fault {
            int x = two();
            int y = two();
            for (int[] other : parts.vertices) {
                must(other[0] != x || other[1] != y, 2);
            }
            parts.vertices.add(new int[] {x, y});
        }

        private void aTexture() throws Fault {
            int width = 1 << one(0, 4);
            int[][] texels = new int[1 << one(0, 4)][width];
            for (int[] row : texels) {
                for (int k = 0; k < width; k++) {
                    row[k] = one(0, 15);
                }
            }
            parts.textures.add(texels);
        }

        private void aSector(int textures) throws Fault {
            int floor = two();
            must(-1024 <= floor && floor <= 1024, 2);
            int ceiling = two();
            must(-1024 <= ceiling && ceiling <= 1024 && ceiling > floor, 2);
            parts.sectors.add(new int[] {floor, ceiling, one(0, textures - 1), oneOr255(textures),
                one(0, 15), one(0, 3), one(0, 255)});
        }

        private void aWall() throws Fault {
            int[] w = new int[15];
            w[0] = one(0, parts.vertices.size() - 1);
            w[1] = one(0, parts.vertices.size() - 1);
            must(w[0] != w[1], 1);
            w[2] = one(0, parts.sectors.size() - 1);
            w[3] = oneOr255(parts.sectors.size());
            for (int what = 4; what < 10; what++) {
                w[what] = oneOr255(parts.textures.size());
                must(what < 7 || w[3] != 255 || w[what] == 255, 1);
            }
            int offsets = one(0, 255);
            w[10] = offsets / 16;
            w[11] = offsets % 16;
            w[12] = one(0, 3);
            w[13] = one(0, 5);
            w[14] = one(0, 255);
            parts.walls.add(w);
        }

        private int next() throws Fault {
            if (at >= input.size()) {
                throw new Fault(1, input.size(), -1);
            }
            return input.get(at++);
        }

        private void same(int due, int number) throws Fault {
            if (next() != due) {
                throw new Fault(number, at - 1, -1);
            }
        }

        private void must(boolean right, int bytesBack) throws Fault {
            if (!right) {
                throw new Fault(3, at - bytesBack, -1);
            }
        }

        private int one(int lowest, int highest) throws Fault {
            int value = next();
            must(lowest <= value && value <= highest, 1);
            return value;
        }

        private int oneOr255(int count) throws Fault {
            int value = next();
            must(value < count || value == 255, 1);
            return value;
        }

        private int two() throws Fault {
            return (short) (next() << 8 | next());
        }

        private boolean meet(int[] wall, int[] other) {
            return Model.meet(parts.vertices.get(wall[0]), parts.vertices.get(wall[1]),
                parts.vertices.get(other[0]), parts.vertices.get(other[1]));
        }
    }

    /** a + t * (b - a) = c + u * (d - c), solved for t and u, which are n / by. */
    private static boolean meet(int[] a, int[] b, int[] c, int[] d) {
        long[] r = {b[0] - a[0], b[1] - a[1]};
        long[] s = {d[0] - c[0], d[1] - c[1]};
        long[] between = {c[0] - a[0], c[1] - a[1]};
        long by = cross(r, s);
        if (by != 0) {
            long t = cross(between, s) * Long.signum(by);
            long u = cross(between, r) * Long.signum(by);
            long one = Math.abs(by);
            boolean common = 0 <= t && t <= one && 0 <= u && u <= one;
            return common && !((t == 0 || t == one) && (u == 0 || u == one));
        }
        // On one line, walls that share no more than one place share an end of both.
        int axis = r[0] != 0 ? 0 : 1;
        int lowest = Math.max(Math.min(a[axis], b[axis]), Math.min(c[axis], d[axis]));
        int highest = Math.min(Math.max(a[axis], b[axis]), Math.max(c[axis], d[axis]));
        return cross(between, r) == 0 && lowest < highest;
    }

    private static long cross(long[] p, long[] q) {
        return p[0] * q[1] - p[1] * q[0];
    }
}
