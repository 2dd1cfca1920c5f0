import java.util.ArrayList;
import java.util.List;

/**
 * Fault 6 by the words alone: places of one wall are tried, one after the other, whether they are
 * on the other wall too and not a VERTEX of both; for every pair of walls on a small grid.
 */
public final class GridMeetingTest {
    private static final int SIDE = 4;

    public static void main(String[] args) {
        List<int[]> walls = walls();
        for (int[] one : walls) {
            for (int[] other : walls) {
                expect(one, other);
            }
        }
        Due.end();
    }

    /** Every wall from one place of the grid to another one: from x, y to x, y. */
    private static List<int[]> walls() {
        List<int[]> walls = new ArrayList<>();
        for (int from = 0; from < SIDE * SIDE; from++) {
            for (int to = 0; to < from; to++) {
                // Half of them go downward, so that no order of the ends is left out.
                int a = (from + to) % 2 == 0 ? from : to;
                int b = from + to - a;
                walls.add(new int[] {a % SIDE, a / SIDE, b % SIDE, b / SIDE});
            }
        }
        return walls;
    }

    private static void expect(int[] one, int[] other) {
        List<Integer> places = new ArrayList<>();
        int[] ends = {vertex(places, one, 0), vertex(places, one, 2), vertex(places, other, 0),
            vertex(places, other, 2)};
        MapBytes map = new MapBytes(places.size(), 1, 1, 2);
        for (int place : places) {
            map.vertex(place % SIDE - 2, place / SIDE - 2);
        }
        map.texture(0, 0, 0).plainSector();
        int second = map.size() + 14;
        map.plainWall(ends[0], ends[1]).plainWall(ends[2], ends[3]).start(0, 0, 0, 0);
        MapLumps x = MapBytes.given(map.withCheck());
        String of = java.util.Arrays.toString(one) + " and " + java.util.Arrays.toString(other);
        if (meet(one, other)) {
            Due.read(of, x, 6, second, 1);
        } else {
            Due.readWell(of, x);
        }
    }

    private static int vertex(List<Integer> places, int[] wall, int end) {
        int place = wall[end] + SIDE * wall[end + 1];
        if (!places.contains(place)) {
            places.add(place);
        }
        return places.indexOf(place);
    }

    /**
     * Walls that cross do so where a whole number of steps of one in so many has been gone; walls on
     * one line share the middle of what they share, which half a step along the grid reaches.
     */
    private static boolean meet(int[] one, int[] other) {
        int dx = one[2] - one[0];
        int dy = one[3] - one[1];
        int cross = dx * (other[3] - other[1]) - dy * (other[2] - other[0]);
        int steps = cross != 0 ? Math.abs(cross) : 2 * Math.max(Math.abs(dx), Math.abs(dy));
        for (int k = 0; k <= steps; k++) {
            int x = one[0] * steps + dx * k;
            int y = one[1] * steps + dy * k;
            boolean ofBoth = (k == 0 || k == steps) && isEnd(other, x, y, steps);
            if (isOn(other, x, y, steps) && !ofBoth) {
                return true;
            }
        }
        return false;
    }

    private static boolean isEnd(int[] wall, int x, int y, int scale) {
        return wall[0] * scale == x && wall[1] * scale == y || wall[2] * scale == x && wall[3] * scale == y;
    }

    /** A place is on a wall if the ways to both ends are no longer together than the wall, and straight. */
    private static boolean isOn(int[] wall, int x, int y, int scale) {
        int ax = wall[0] * scale - x;
        int ay = wall[1] * scale - y;
        int bx = wall[2] * scale - x;
        int by = wall[3] * scale - y;
        return ax * by == ay * bx && ax * bx + ay * by <= 0;
    }
}
