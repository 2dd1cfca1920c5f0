/** "Terms", READING, the FAULTS and THE MAP: a test for each sentence that names a boundary. */
public final class FaultBoundaryTest {
    private static final byte[] SMALL = MapBytes.small().withCheck();

    public static void main(String[] args) {
        Due.sentence("READING goes from byte to byte, from the first one on", FaultBoundaryTest::firstSeen);
        Due.sentence("1: the INPUT ends where a byte is to be read", FaultBoundaryTest::ends);
        Due.sentence("1: (its length)", FaultBoundaryTest::endsAtItsLength);
        Due.sentence("2: one of the first three bytes is another one (its place)", FaultBoundaryTest::marks);
        Due.sentence("3: a number that can not be there (its first byte)", FaultBoundaryTest::numbers);
        Due.sentence("3: a VERTEX that is where another one is (of y)", FaultBoundaryTest::vertices);
        Due.sentence("3: a WALL whose VERTICES are one (of the second)", FaultBoundaryTest::wallsOfOneVertex);
        Due.sentence("3: a TEXTURE of a BACK that there is none", FaultBoundaryTest::texturesOfNoBack);
        Due.sentence("3: of the CEILING where it is not above", FaultBoundaryTest::ceilings);
        Due.sentence("4: the CHECK (its first byte that is another one)", FaultBoundaryTest::checks);
        Due.sentence("5: bytes are left behind (the first one)", FaultBoundaryTest::bytesLeft);
        Due.sentence("6: looked for when all else is right", FaultBoundaryTest::meetingsLast);
        Due.sentence("6: a place in common", FaultBoundaryTest::placesInCommon);
        Due.sentence("6: with one of a lower number", FaultBoundaryTest::lowerNumbers);
        Due.sentence("6: but a VERTEX of both", FaultBoundaryTest::vertexOfBoth);
        Due.sentence("6: (its first byte; the first such WALL)", FaultBoundaryTest::firstSuchWall);
        Due.sentence("THE MAP is the one that was read last without a fault", FaultBoundaryTest::theMap);
        Due.sentence("THE MAP: none at first", FaultBoundaryTest::noMapAtFirst);
        Due.end();
    }

    private static MapLumps cutBehind(MapLumps x, int place) {
        Due.yes("cut(" + (place + 1) + ")", x.cut(place + 1));
        return x;
    }

    private static MapLumps of(int... bytes) {
        MapLumps x = new MapLumps();
        for (int b : bytes) {
            x.give(b, 1);
        }
        return x;
    }

    private static void firstSeen() {
        Due.read("2 twice", MapBytes.poked(0, 78, 2, 2), 2, 0, -1);
        Due.read("2 ahead of 3", MapBytes.poked(2, 2, 3, 129), 2, 2, -1);
        Due.read("3 twice", MapBytes.poked(42, 16, 43, 4), 3, 42, -1);
        Due.read("3 in a texture ahead of 3 in a sector", MapBytes.poked(35, 16, 40, 2), 3, 35, -1);
        Due.read("3 in a sector ahead of 3 in a wall", MapBytes.poked(52, 4, 54, 4), 3, 52, -1);
        Due.read("3 in a wall ahead of 3 in START", MapBytes.poked(80, 6, 86, 64), 3, 80, -1);
        Due.read("3 ahead of 1", cutBehind(MapBytes.poked(42, 16), 42), 3, 42, -1);
        Due.read("1 ahead of 3", cutBehind(MapBytes.poked(42, 16), 41), 1, 42, -1);
        MapLumps check = MapBytes.poked(87, 2);
        check.poke(88, check.byteAt(88, true) + 1);
        Due.read("3 ahead of 4", check, 3, 87, -1);
        MapLumps left = MapBytes.poked();
        left.poke(89, left.byteAt(89, true) + 1);
        left.give(0, 1);
        Due.read("4 ahead of 5", left, 4, 89, -1);
    }

    private static void ends() {
        Due.read("no byte", new MapLumps(), 1, 0, -1);
        Due.read("one byte", of(77), 1, 1, -1);
        Due.read("both marks", of(77, 72), 1, 2, -1);
        Due.read("all marks", of(77, 72, 1), 1, 3, -1);
        Due.read("all but one count", of(77, 72, 1, 0, 0, 1), 1, 6, -1);
        Due.read("all counts", of(77, 72, 1, 128, 16, 32, 128), 1, 7, -1);
        Due.read("half a number of a VERTEX", cutBehind(MapBytes.poked(), 7), 1, 8, -1);
        Due.read("half a number of a SECTOR", cutBehind(MapBytes.poked(), 38), 1, 39, -1);
        // What the first byte of a number tells is not yet the number.
        Due.read("half a FLOOR, far too high", cutBehind(MapBytes.poked(36, 127), 36), 1, 37, -1);
        Due.read("no CHECK", cutBehind(MapBytes.poked(), 87), 1, 88, -1);
        Due.read("half a CHECK", cutBehind(MapBytes.poked(), 88), 1, 89, -1);
    }

    private static void endsAtItsLength() {
        for (int n = 0; n < SMALL.length; n++) {
            MapLumps x = MapBytes.given(SMALL);
            Due.yes("cut(" + n + ")", x.cut(n));
            Due.read(n + " bytes", x, 1, n, -1);
        }
        Due.readWell("all bytes", MapBytes.given(SMALL));
    }

    private static void marks() {
        int[] due = {77, 72, 1};
        for (int place = 0; place < 3; place++) {
            for (int b : new int[] {due[place] - 1, due[place] + 1, due[place] + 128}) {
                MapLumps x = MapBytes.poked(place, b);
                Due.read("byte " + place + " is " + b, x, 2, place, -1);
                Due.read("and it is the last one", cutBehind(x, place), 2, place, -1);
            }
        }
        Due.read("a lower case letter", of(77 + 32), 2, 0, -1);
    }

    private static void numbers() {
        int[][] placesAndBytes = {{3, 129}, {4, 17}, {5, 0}, {5, 33}, {6, 129}, {23, 5}, {24, 5}, {25, 16},
            {28, 16}, {35, 16}, {40, 2}, {40, 255}, {41, 2}, {41, 254}, {42, 16}, {43, 4}, {54, 4}, {55, 4},
            {56, 2}, {56, 255}, {57, 2}, {57, 254}, {58, 2}, {60, 254}, {75, 2}, {77, 254}, {65, 4}, {66, 6},
            {86, 64}, {87, 2}, {87, 255}};
        for (int[] row : placesAndBytes) {
            MapLumps x = MapBytes.poked(row);
            Due.read("byte " + row[0] + " is " + row[1], x, 3, row[0], -1);
            Due.read("and it is the last one", cutBehind(x, row[0]), 3, row[0], -1);
        }
        MapLumps floor = MapBytes.poked(36, 4, 37, 1);
        Due.read("FLOOR 1025", floor, 3, 36, -1);
        Due.read("and it is the last one", cutBehind(floor, 37), 3, 36, -1);
        MapLumps second = MapBytes.poked(45, 251, 46, 255);
        Due.read("FLOOR -1025 of the second SECTOR", second, 3, 45, -1);
    }

    private static void vertices() {
        MapLumps x = MapBytes.poked(12, 0);
        Due.read("VERTEX 1 where 0 is", x, 3, 13, -1);
        Due.read("its last byte is the last one", cutBehind(x, 14), 3, 13, -1);
        Due.read("without its last byte", cutBehind(x, 13), 1, 14, -1);
        Due.read("without its y", cutBehind(x, 12), 1, 13, -1);
        Due.read("VERTEX 3 where 1 is", MapBytes.poked(19, 0, 20, 10, 21, 0, 22, 0), 3, 21, -1);
        // It is seen when the second of the two is read, ahead of what stands behind.
        Due.read("2 where 1 is, 3 where 0 is", MapBytes.poked(18, 0, 19, 0, 20, 0, 21, 0, 22, 0), 3, 17, -1);
    }

    private static void wallsOfOneVertex() {
        MapLumps x = MapBytes.poked(55, 0);
        Due.read("from 0 to 0", x, 3, 55, -1);
        Due.read("and it is the last one", cutBehind(x, 55), 3, 55, -1);
        Due.read("from 2 to 2, the second WALL", MapBytes.poked(68, 2), 3, 69, -1);
        Due.read("from 4, which there is not, to 4", MapBytes.poked(54, 4, 55, 4), 3, 54, -1);
    }

    private static void texturesOfNoBack() {
        // The second WALL has a BACK with an upper and a middle TEXTURE, and no lower one.
        Due.read("upper", MapBytes.poked(71, 255), 3, 75, -1);
        Due.read("middle", MapBytes.poked(71, 255, 75, 255), 3, 76, -1);
        Due.readWell("none", MapBytes.poked(71, 255, 75, 255, 76, 255));
        Due.read("lower", MapBytes.poked(71, 255, 75, 255, 76, 255, 77, 0), 3, 77, -1);
        Due.read("no TEXTURE anyway", MapBytes.poked(71, 255, 75, 255, 76, 254), 3, 76, -1);
        // Of each WALL its own BACK counts.
        Due.read("the first WALL's upper", MapBytes.poked(61, 0), 3, 61, -1);
        Due.readWell("the first WALL's with a BACK", MapBytes.poked(57, 0, 61, 0, 62, 1, 63, 255));
    }

    private static void ceilings() {
        MapLumps equal = MapBytes.poked(47, 0, 48, 10);
        Due.read("CEILING 10, FLOOR 10", equal, 3, 47, -1);
        Due.read("and it is the last one", cutBehind(equal, 48), 3, 47, -1);
        Due.read("half of it", cutBehind(equal, 47), 1, 48, -1);
        Due.read("CEILING 9", MapBytes.poked(47, 0, 48, 9), 3, 47, -1);
        Due.read("CEILING -1", MapBytes.poked(47, 255, 48, 255), 3, 47, -1);
        Due.readWell("CEILING 11", MapBytes.poked(47, 0, 48, 11));
        Due.read("FLOOR 11, CEILING 11", MapBytes.poked(46, 11), 3, 47, -1);
    }

    private static MapLumps checked(int first, int second) {
        MapLumps x = MapBytes.given(SMALL);
        x.poke(88, SMALL[88] + first);
        x.poke(89, SMALL[89] + second);
        return x;
    }

    private static void checks() {
        for (int more = 1; more < 256; more++) {
            Due.read("the first one", checked(more, 0), 4, 88, -1);
            Due.read("the second one", checked(0, more), 4, 89, -1);
            Due.read("both", checked(more, more), 4, 88, -1);
        }
        Due.readWell("none", checked(0, 0));
        Due.read("the first one, and it is the last byte", cutBehind(checked(1, 0), 88), 4, 88, -1);
        // A sum of 0 modulo 251 is the byte 0, not the byte 251.
        MapLumps x = MapBytes.given(MapBytes.least().withCheck());
        x.poke(18, 251 - x.byteAt(25, true));
        x.check();
        Due.same("the first byte", x.byteAt(25, true), 0);
        Due.readWell("0", x);
        x.poke(25, 251);
        Due.read("251", x, 4, 25, -1);
    }

    private static void bytesLeft() {
        for (int n = 1; n <= 8; n++) {
            MapLumps x = MapBytes.given(SMALL);
            x.give(0, n);
            Due.read(n + " left", x, 5, 90, -1);
        }
        MapLumps x = MapBytes.given(SMALL);
        MapBytes.give(x, SMALL);
        Due.read("the map twice", x, 5, 90, -1);
        x.cut(91);
        Due.read("one left", x, 5, 90, -1);
        x.cut(90);
        Due.readWell("none left", x);
        MapLumps least = MapBytes.given(MapBytes.least().withCheck());
        least.give(255, 1);
        Due.read("behind the least map", least, 5, 27, -1);
    }

    private static void meetingsLast() {
        MapLumps x = MapBytes.poked(69, 0);
        Due.read("a WALL that goes back", x, 6, 68, 1);
        x.poke(86, 64);
        Due.read("3 behind it", x, 3, 86, -1);
        x.poke(86, 63);
        x.poke(89, x.byteAt(89, true) + 1);
        Due.read("4 behind it", x, 4, 89, -1);
        x.check();
        x.give(0, 1);
        Due.read("5 behind it", x, 5, 90, -1);
        x.cut(89);
        Due.read("1 behind it", x, 1, 89, -1);
        x.give(0, 1);
        x.check();
        Due.read("all else is right again", x, 6, 68, 1);
        x.poke(69, 2);
        x.check();
        Due.readWell("another VERTEX", x);
    }

    /** Walls between the given places; each VERTEX stands for one place alone. */
    private static MapLumps walls(int[] places, int... ends) {
        MapBytes map = new MapBytes(places.length / 2, 1, 1, ends.length / 2);
        for (int k = 0; k < places.length; k += 2) {
            map.vertex(places[k], places[k + 1]);
        }
        map.texture(0, 0, 0).plainSector();
        for (int k = 0; k < ends.length; k += 2) {
            map.plainWall(ends[k], ends[k + 1]);
        }
        return MapBytes.given(map.start(0, 0, 0, 0).withCheck());
    }

    private static int wallsAt(int vertices) {
        return 7 + 4 * vertices + 3 + 9;
    }

    private static void meet(String of, boolean due, int... places) {
        int at = wallsAt(4) + 14;
        Due.read(of, walls(places, 0, 1, 2, 3), due ? 6 : 0, due ? at : -1, due ? 1 : -1);
        Due.read(of + ", changed", walls(places, 3, 2, 1, 0), due ? 6 : 0, due ? at : -1, due ? 1 : -1);
    }

    private static void placesInCommon() {
        meet("they cross", true, 0, 0, 4, 4, 0, 4, 4, 0);
        meet("they cross between whole places", true, 0, 0, 1, 1, 0, 1, 1, 0);
        meet("an end of one lies within the other", true, 0, 0, 4, 0, 2, 0, 2, 9);
        meet("an end is one short of the other", false, 0, 0, 4, 0, 2, 1, 2, 9);
        meet("an end is one beside the other's end", false, 0, 0, 4, 0, 5, 0, 5, 9);
        meet("on one line, one apart", false, 0, 0, 4, 0, 5, 0, 9, 0);
        meet("on one line, one over", true, 0, 0, 5, 0, 4, 0, 9, 0);
        meet("on one line, one within", true, 0, 0, 9, 9, 4, 4, 5, 5);
        meet("on one upright line, one apart", false, 0, 0, 0, 4, 0, 5, 0, 9);
        meet("on one upright line, one over", true, 0, 0, 0, 5, 0, 4, 0, 9);
        meet("on one slanted line, one apart", false, 0, 0, 2, -4, 3, -6, 5, -10);
        meet("on one slanted line, one over", true, 0, 0, 3, -6, 2, -4, 5, -10);
        meet("side by side", false, 0, 0, 9, 9, 1, 0, 9, 8);
        meet("boxes share a corner alone", false, 0, 0, 4, 4, 4, 5, 5, 4);
        meet("far, they cross", true, -32768, -32768, 32767, 32767, -32768, 32767, 32767, -32768);
        meet("far, side by side", false, -32768, -32768, 32767, 32766, -32768, -32767, 32767, 32767);
        meet("far, just past", true, -32768, -32768, 32767, 32767, -32768, -32767, 32767, 32766);
    }

    private static void vertexOfBoth() {
        int[] places = {0, 0, 4, 0, 8, 0, 4, 4, 8, 8};
        Due.readWell("straight on", walls(places, 0, 1, 1, 2));
        Due.readWell("straight on, face to face", walls(places, 0, 1, 2, 1));
        Due.readWell("a corner", walls(places, 0, 1, 1, 3));
        Due.readWell("a sharp corner", walls(places, 0, 2, 0, 3));
        Due.readWell("four at one VERTEX", walls(places, 1, 0, 1, 2, 1, 3, 1, 4));
        Due.read("a VERTEX of one alone", walls(places, 0, 2, 1, 3), 6, wallsAt(5) + 14, 1);
        Due.read("more than the VERTEX", walls(places, 0, 1, 0, 2), 6, wallsAt(5) + 14, 1);
        Due.read("more than it, back", walls(places, 2, 1, 0, 2), 6, wallsAt(5) + 14, 1);
        Due.read("more than it, slanted", walls(places, 4, 3, 0, 4), 6, wallsAt(5) + 14, 1);
        shortAndUpright();
        farAcross();
        Due.read("both VERTICES", walls(places, 0, 1, 0, 1), 6, wallsAt(5) + 14, 1);
        Due.read("both VERTICES, back", walls(places, 0, 1, 1, 0), 6, wallsAt(5) + 14, 1);
    }

    private static void shortAndUpright() {
        int[] places = {0, 0, 1, 0, 0, -1, 0, -2, 0, 3};
        int at = wallsAt(5) + 14;
        Due.read("the shortest WALL twice", walls(places, 0, 1, 0, 1), 6, at, 1);
        Due.read("the shortest upright WALL twice", walls(places, 0, 2, 2, 0), 6, at, 1);
        Due.read("down, and a part of it", walls(places, 0, 3, 0, 2), 6, at, 1);
        Due.read("down, and more than it", walls(places, 0, 2, 3, 0), 6, at, 1);
        Due.readWell("up and down", walls(places, 0, 4, 0, 3));
        Due.readWell("across and down", walls(places, 0, 1, 0, 2));
    }

    private static void farAcross() {
        int[] places = {-32768, -32768, 32767, -32768, -32768, 32767, 32767, 32767, 32766, 32766};
        int at = wallsAt(5) + 14;
        for (int end = 1; end < 4; end++) {
            Due.read("from 0 to " + end + " twice", walls(places, 0, end, 0, end), 6, at, 1);
            Due.read("from 0 to " + end + " and back", walls(places, 0, end, end, 0), 6, at, 1);
        }
        Due.read("all but the last place", walls(places, 0, 3, 4, 0), 6, at, 1);
        Due.readWell("the whole edge", walls(places, 0, 1, 1, 3, 3, 2, 2, 0, 0, 4));
    }

    private static void lowerNumbers() {
        int[] places = {0, 0, 8, 0, 4, -4, 4, 4, 100, 100, 101, 101};
        Due.readWell("one WALL alone", walls(places, 0, 1));
        Due.read("WALL 1 and WALL 0", walls(places, 0, 1, 2, 3), 6, wallsAt(6) + 14, 1);
        Due.read("WALL 2 and WALL 0", walls(places, 0, 1, 4, 5, 2, 3), 6, wallsAt(6) + 28, 2);
        Due.read("WALL 2 and WALL 1", walls(places, 4, 5, 0, 1, 2, 3), 6, wallsAt(6) + 28, 2);
        // A WALL that was read before, and is no more, meets none.
        MapLumps fewer = walls(places, 0, 1, 2, 3);
        Due.read("two WALLS", fewer, 6, wallsAt(6) + 14, 1);
        fewer.cut(0);
        byte[] one = new MapBytes(2, 1, 1, 1).vertex(0, 0).vertex(8, 0).texture(0, 0, 0).plainSector()
            .plainWall(0, 1).start(0, 0, 0, 0).withCheck();
        MapBytes.give(fewer, one);
        Due.readWell("one WALL", fewer);
        // The last of 128 WALLS lies where the first one is, and then where the last but one is.
        int lastAt = 7 + 4 * 128 + 16 * 3 + 32 * 9 + 127 * 14;
        Due.read("WALL 127 and WALL 0", lastOfMost(lastAt, 0, 1), 6, lastAt, 127);
        Due.read("WALL 127 and WALL 126", lastOfMost(lastAt, 126, 127), 6, lastAt, 127);
        Due.readWell("WALL 127 and none", lastOfMost(lastAt, 127, 0));
    }

    private static MapLumps lastOfMost(int at, int from, int to) {
        MapLumps x = MapBytes.given(MapBytes.most().withCheck());
        x.poke(at, from);
        x.poke(at + 1, to);
        x.check();
        return x;
    }

    private static void firstSuchWall() {
        int[] places = {0, 0, 8, 0, 2, -4, 2, 4, 4, -4, 4, 4, 6, -4, 6, 4};
        // What counts is the higher number of a pair: the lowest one of these.
        Due.read("0 is met by 1, 2 and 3", walls(places, 0, 1, 2, 3, 4, 5, 6, 7), 6, wallsAt(8) + 14, 1);
        Due.read("3 meets all others", walls(places, 2, 3, 4, 5, 6, 7, 0, 1), 6, wallsAt(8) + 42, 3);
        Due.read("2 meets all ahead and 3", walls(places, 2, 3, 4, 5, 0, 1, 6, 7), 6, wallsAt(8) + 28, 2);
        Due.read("3 is 0, 2 is 1", walls(places, 2, 3, 4, 5, 4, 5, 2, 3), 6, wallsAt(8) + 28, 2);
    }

    private static void theMap() {
        MapLumps x = MapBytes.given(SMALL);
        Due.readWell("the small map", x);
        x.poke(3, 129);
        Due.read("3", x, 3, 3, -1);
        Due.same("look(2) behind a fault", x.look(2), 4);
        x.poke(3, 4);
        x.poke(69, 0);
        x.check();
        Due.read("6", x, 6, 68, 1);
        Due.same("wall(1, 1) behind a fault 6", x.wall(1, 1), 2);
        x.cut(0);
        MapBytes.give(x, MapBytes.least().withCheck());
        Due.same("look(2) before it is read", x.look(2), 4);
        Due.readWell("the least map", x);
        int[] due = {27, 0, 0, 1, 1, 0};
        for (int which = 0; which < due.length; which++) {
            Due.same("look(" + which + ")", x.look(which), due[which]);
        }
        Due.same("nothing stays of VERTICES", x.vertex(0, true), 100000);
        Due.same("nothing stays of TEXTURES", x.texture(1, 0), -1);
        Due.same("nothing stays of SECTORS", x.sector(1, 0), 100000);
        Due.same("nothing stays of WALLS", x.wall(0, 0), -1);
        Due.same("nothing stays of START", x.start(2), 0);
        // THE MAP is what was read, whatever comes to the INPUT later.
        x.poke(9, 15);
        x.cut(1);
        Due.same("texture(0, 2)", x.texture(0, 2), 0);
        Due.same("write()", x.write(), 27);
    }

    private static void noMapAtFirst() {
        MapLumps x = MapBytes.given(SMALL);
        x.cut(89);
        for (int turn = 0; turn < 2; turn++) {
            for (int which = 2; which < 6; which++) {
                Due.same("look(" + which + ")", x.look(which), -1);
            }
            Due.same("write()", x.write(), -1);
            Due.same("start(0)", x.start(0), 100000);
            Due.read("a fault", x, 1, 89, -1);
        }
    }
}
