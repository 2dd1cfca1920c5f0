import java.util.ArrayList;
import java.util.List;

/** Promise 5: read, the fault 6: walls with a place in common. */
public final class MeetingTest {
    private static final int LOW = -32768;
    private static final int HIGH = 32767;

    public static void main(String[] args) {
        apart();
        atOneVertex();
        crossing();
        onOneLine();
        farAcross();
        theFirstWallCounts();
        Due.end();
    }

    /** Each row is a wall: from x, y to x, y. */
    private static void expect(String of, int wall, int[]... walls) {
        MapLumps x = MapBytes.given(map(walls).withCheck());
        if (wall < 0) {
            Due.readWell(of, x);
        } else {
            int wallsAt = x.look(0) - 8 - 14 * walls.length;
            Due.read(of, x, 6, wallsAt + 14 * wall, wall);
            Due.same(of + ": look(5)", x.look(5), -1);
        }
    }

    private static MapBytes map(int[]... walls) {
        List<Long> places = new ArrayList<>();
        List<int[]> ends = new ArrayList<>();
        for (int[] w : walls) {
            ends.add(new int[] {vertex(places, w[0], w[1]), vertex(places, w[2], w[3])});
        }
        MapBytes map = new MapBytes(places.size(), 1, 1, walls.length);
        for (long place : places) {
            map.vertex((int) (place >> 32), (int) place);
        }
        map.texture(0, 0, 0).plainSector();
        for (int[] end : ends) {
            map.plainWall(end[0], end[1]);
        }
        return map.start(0, 0, 0, 0);
    }

    private static int vertex(List<Long> places, int x, int y) {
        long place = (long) x << 32 | y & 0xFFFFFFFFL;
        if (!places.contains(place)) {
            places.add(place);
        }
        return places.indexOf(place);
    }

    /** Both walls in both directions and in both orders. */
    private static void pair(String of, boolean meet, int[] one, int[] other) {
        int wall = meet ? 1 : -1;
        int[] back = {one[2], one[3], one[0], one[1]};
        int[] otherBack = {other[2], other[3], other[0], other[1]};
        for (int[] a : new int[][] {one, back}) {
            for (int[] b : new int[][] {other, otherBack}) {
                expect(of, wall, a, b);
                expect(of + ", the other first", wall, b, a);
            }
        }
    }

    private static int[] w(int ax, int ay, int bx, int by) {
        return new int[] {ax, ay, bx, by};
    }

    private static void apart() {
        pair("far apart", false, w(0, 0, 1, 1), w(100, 100, 101, 102));
        pair("boxes in one another", false, w(0, 0, 10, 10), w(5, 4, 9, 0));
        pair("one line parts the other wall", false, w(0, 0, 4, 0), w(6, -3, 6, 3));
        pair("one line parts the other wall, slanted", false, w(0, 0, 10, 10), w(7, 2, 8, -9));
        pair("side by side", false, w(0, 0, 10, 0), w(0, 1, 10, 1));
        pair("side by side, slanted", false, w(0, 0, 10, 10), w(1, 0, 11, 10));
        pair("one place short of a wall", false, w(0, 0, 10, 0), w(5, 1, 5, 9));
    }

    private static void atOneVertex() {
        pair("a corner", false, w(0, 0, 10, 0), w(10, 0, 10, 10));
        pair("a sharp corner", false, w(0, 0, 100, 1), w(0, 0, 100, 2));
        pair("straight on", false, w(0, 0, 10, 0), w(10, 0, 20, 0));
        pair("straight on, slanted", false, w(0, 0, 3, 6), w(3, 6, 4, 8));
        pair("back over itself", true, w(0, 0, 10, 0), w(10, 0, 5, 0));
        pair("back over all of it", true, w(0, 0, 10, 0), w(10, 0, -5, 0));
        pair("back, slanted", true, w(0, 0, 4, 2), w(4, 2, 2, 1));
        pair("back, upright", true, w(3, 0, 3, 9), w(3, 0, 3, 1));
        pair("back, downward", true, w(0, 0, 0, -5), w(0, 0, 0, -3));
        pair("the same short wall", true, w(4, 4, 5, 4), w(4, 4, 5, 4));
        pair("the same wall", true, w(0, 0, 10, 3), w(0, 0, 10, 3));
    }

    private static void crossing() {
        pair("a cross", true, w(-5, 0, 5, 0), w(0, -5, 0, 5));
        pair("a cross between places", true, w(0, 0, 1, 1), w(0, 1, 1, 0));
        pair("a long cross", true, w(0, 0, 100, 1), w(0, 1, 100, 0));
        pair("an end within a wall", true, w(0, 0, 10, 0), w(5, 0, 5, 10));
        pair("an end within a slanted wall", true, w(0, 0, 10, 20), w(3, 6, 50, 6));
        pair("an end between the ends' places", true, w(0, 0, 0, 3), w(0, 2, 9, 2));
    }

    private static void onOneLine() {
        pair("a gap", false, w(0, 0, 4, 0), w(5, 0, 9, 0));
        pair("a gap, upright", false, w(1, 0, 1, 4), w(1, 5, 1, 9));
        pair("a gap, slanted", false, w(0, 0, 2, 4), w(3, 6, 5, 10));
        pair("a part of it", true, w(0, 0, 5, 0), w(4, 0, 9, 0));
        pair("a part, slanted down", true, w(0, 0, 4, -8), w(3, -6, 9, -18));
        pair("one within the other", true, w(0, 0, 9, 9), w(3, 3, 4, 4));
    }

    private static void farAcross() {
        pair("from corner to corner", true, w(LOW, LOW, HIGH, HIGH), w(LOW, HIGH, HIGH, LOW));
        pair("a corner of it all", false, w(LOW, LOW, HIGH, LOW), w(HIGH, LOW, HIGH, HIGH));
        pair("one beside the diagonal", false, w(LOW, LOW, HIGH, HIGH), w(HIGH, HIGH - 1, LOW + 1, LOW));
        pair("all but the same way", false, w(LOW, LOW, HIGH, HIGH), w(LOW, LOW, HIGH, HIGH - 1));
        pair("just past the diagonal", true, w(LOW, LOW, HIGH, HIGH), w(LOW, LOW + 1, HIGH, HIGH - 1));
        pair("the bottom twice", true, w(LOW, LOW, HIGH, LOW), w(LOW, LOW, HIGH, LOW));
        pair("the left side twice", true, w(LOW, LOW, LOW, HIGH), w(LOW, LOW, LOW, HIGH));
        pair("the diagonal, back", true, w(LOW, LOW, HIGH, HIGH), w(HIGH, HIGH, 0, 0));
    }

    private static void theFirstWallCounts() {
        int[] bottom = w(0, 0, 10, 0);
        int[] right = w(10, 0, 10, 10);
        int[] top = w(10, 10, 0, 10);
        int[] left = w(0, 10, 0, 0);
        int[] across = w(-5, 5, 5, 5);
        int[] upright = w(3, 3, 3, 20);
        expect("a ring", -1, bottom, right, top, left);
        expect("a ring, and its diagonal", -1, bottom, right, top, left, w(0, 0, 10, 10));
        expect("both diagonals", 5, bottom, right, top, left, w(0, 0, 10, 10), w(10, 0, 0, 10));
        expect("the last wall", 4, bottom, right, top, left, across);
        expect("two such walls", 4, bottom, right, top, left, across, upright);
        expect("in another order", 3, across, bottom, right, left, upright, top);
        expect("the higher number says it", 3, across, bottom, right, left, top);
        expect("a wall that is there twice", 1, bottom, bottom, bottom);
    }
}
