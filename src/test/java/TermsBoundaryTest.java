import java.util.function.ToIntFunction;

/** "Terms", the numbers of a MAP and THE BYTES: a test for each sentence that names a boundary. */
public final class TermsBoundaryTest {
    public static void main(String[] args) {
        parts();
        bytes();
        Due.end();
    }

    private static void parts() {
        Due.sentence("VERTICES, places x, y (-32768 .. 32767 each)", TermsBoundaryTest::placesOfVertices);
        Due.sentence("no two alike", TermsBoundaryTest::noTwoAlike);
        Due.sentence("texels, 0 .. 15", TermsBoundaryTest::texels);
        Due.sentence("W and H being 1, 2, 4, 8 or 16", TermsBoundaryTest::widthsAndHeights);
        Due.sentence("a FLOOR, -1024 .. 1024", TermsBoundaryTest::floors);
        Due.sentence("a CEILING, -1024 .. 1024", TermsBoundaryTest::ceilings);
        Due.sentence("a CEILING above it", TermsBoundaryTest::ceilingsAboveFloors);
        Due.sentence("a TEXTURE for its floor", TermsBoundaryTest::textureOfFloor);
        Due.sentence("one for its ceiling, or SKY", TermsBoundaryTest::textureOfCeiling);
        Due.sentence("a LIGHT 0 .. 15", () -> oneByte(42, 0, 15, x -> x.sector(0, 4)));
        Due.sentence("a SECTOR's KIND 0 .. 3", () -> oneByte(43, 0, 3, x -> x.sector(0, 5)));
        Due.sentence("a SECTOR's TAG 0 .. 255", () -> oneByte(44, 0, 255, x -> x.sector(0, 6)));
        Due.sentence("from a VERTEX", TermsBoundaryTest::fromVertex);
        Due.sentence("to another one", TermsBoundaryTest::toAnotherVertex);
        Due.sentence("a FRONT sector", () -> oneByte(56, 0, 1, x -> x.wall(0, 2)));
        Due.sentence("a BACK one or none", () -> oneByteOrNone(57, 1, x -> x.wall(0, 3)));
        Due.sentence("for FRONT three TEXTURES, or none", TermsBoundaryTest::texturesOfFront);
        Due.sentence("for BACK three TEXTURES, or none", TermsBoundaryTest::texturesOfBack);
        Due.sentence("none for BACK without one", TermsBoundaryTest::texturesWithoutBack);
        Due.sentence("OFFSETS across and down, 0 .. 15 each", TermsBoundaryTest::offsets);
        Due.sentence("PEGS, a set of upper (1) and lower (2)", () -> oneByte(65, 0, 3, x -> x.wall(0, 12)));
        Due.sentence("a WALL's KIND 0 .. 5", () -> oneByte(66, 0, 5, x -> x.wall(0, 13)));
        Due.sentence("a WALL's TAG 0 .. 255", () -> oneByte(67, 0, 255, x -> x.wall(0, 14)));
        Due.sentence("START has a place", TermsBoundaryTest::placesOfStart);
        Due.sentence("an ANGLE 0 .. 63", () -> oneByte(86, 0, 63, x -> x.start(2)));
        Due.sentence("START's SECTOR", () -> oneByte(87, 0, 1, x -> x.start(3)));
    }

    private static void bytes() {
        Due.sentence("77, 72, 1", TermsBoundaryTest::marks);
        Due.sentence("how many VERTICES (0 .. 128)", TermsBoundaryTest::countOfVertices);
        Due.sentence("TEXTURES (0 .. 16)", TermsBoundaryTest::countOfTextures);
        Due.sentence("SECTORS (1 .. 32)", TermsBoundaryTest::countOfSectors);
        Due.sentence("WALLS (0 .. 128)", TermsBoundaryTest::countOfWalls);
        Due.sentence("the high one first, below 0 as 65536 more", TermsBoundaryTest::numbersOfTwoBytes);
        Due.sentence("the powers of two of W and H (0 .. 4)", TermsBoundaryTest::powers);
        Due.sentence("then texels, row by row", TermsBoundaryTest::rowByRow);
        Due.sentence("16 * across + down", TermsBoundaryTest::offsetsInOneByte);
        Due.sentence("the sum of all bytes before it modulo 251", TermsBoundaryTest::firstOfCheck);
        Due.sentence("the second the sum, modulo 251", TermsBoundaryTest::secondOfCheck);
    }

    /** Every byte at a place of the small map: right from the lowest to the highest, but for some. */
    private static void oneByte(int place, int lowest, int highest, ToIntFunction<MapLumps> asked,
            int... but) {
        for (int b = 0; b < 256; b++) {
            if (b >= lowest && b <= highest && !holds(but, b)) {
                right(place, b, asked);
            } else if (!holds(but, b)) {
                wrong(place, b);
            }
        }
    }

    private static void oneByteOrNone(int place, int highest, ToIntFunction<MapLumps> asked) {
        oneByte(place, 0, highest, asked, 255);
        right(place, 255, asked);
    }

    private static boolean holds(int[] values, int sought) {
        for (int value : values) {
            if (value == sought) {
                return true;
            }
        }
        return false;
    }

    private static void right(int place, int b, ToIntFunction<MapLumps> asked) {
        MapLumps x = MapBytes.poked(place, b);
        Due.readWell("byte " + place + " is " + b, x);
        Due.same("the number at " + place, asked.applyAsInt(x), b);
    }

    private static void wrong(int place, int b) {
        Due.read("byte " + place + " is " + b, MapBytes.poked(place, b), 3, place, -1);
    }

    private static MapLumps twoBytes(int place, int value) {
        return MapBytes.poked(place, value >> 8, place + 1, value);
    }

    private static void placesOfVertices() {
        for (int value : new int[] {-32768, -32767, -1, 0, 1, 32766, 32767}) {
            MapLumps x = twoBytes(19, value);
            Due.readWell("x " + value, x);
            Due.same("vertex(3, true)", x.vertex(3, true), value);
            x = twoBytes(21, value);
            Due.readWell("y " + value, x);
            Due.same("vertex(3, false)", x.vertex(3, false), value);
        }
    }

    private static void noTwoAlike() {
        Due.read("the second like the first", vertices(5, 6, 5, 6), 3, 13, -1);
        Due.read("the last like the first", vertices(5, 6, 1, 2, 3, 4, 5, 6), 3, 21, -1);
        Due.read("the last like the one ahead", vertices(1, 2, 3, 4, 5, 6, 5, 6), 3, 21, -1);
        Due.read("alike at the edge", vertices(-32768, 32767, -32768, 32767), 3, 13, -1);
        Due.readWell("the same x", vertices(5, 6, 5, 7));
        Due.readWell("the same y", vertices(5, 6, 4, 6));
        Due.readWell("x and y changed", vertices(5, 6, 6, 5));
        Due.readWell("one below 0", vertices(5, 6, -5, 6, 5, -6, -5, -6));
        Due.readWell("alike in the low bytes", vertices(5, 6, 256 + 5, 6, 5, 256 + 6));
        int[] many = new int[256];
        for (int k = 0; k < many.length; k++) {
            many[k] = k;
        }
        Due.readWell("128 vertices", vertices(many));
        many[254] = many[0];
        many[255] = many[1];
        Due.read("vertex 127 like vertex 0", vertices(many), 3, 7 + 4 * 127 + 2, -1);
    }

    private static MapLumps vertices(int... places) {
        MapBytes map = new MapBytes(places.length / 2, 1, 1, 0);
        for (int k = 0; k < places.length; k += 2) {
            map.vertex(places[k], places[k + 1]);
        }
        return MapBytes.given(map.texture(0, 0, 0).plainSector().start(0, 0, 0, 0).withCheck());
    }

    private static void texels() {
        oneByte(25, 0, 15, x -> x.texture(0, 2));
        oneByte(28, 0, 15, x -> x.texture(1, 2));
        oneByte(35, 0, 15, x -> x.texture(1, 2 + 16 * 3 + 1));
    }

    private static void widthsAndHeights() {
        for (int power = 0; power < 5; power++) {
            int[] texels = new int[1 << power];
            MapLumps wide = oneTexture(power, 0, texels);
            Due.readWell("W is 2 to the " + power, wide);
            Due.same("W", wide.texture(0, 0), 1 << power);
            Due.same("H", wide.texture(0, 1), 1);
            MapLumps high = oneTexture(0, power, texels);
            Due.readWell("H is 2 to the " + power, high);
            Due.same("W", high.texture(0, 0), 1);
            Due.same("H", high.texture(0, 1), 1 << power);
        }
        MapLumps both = oneTexture(4, 4, new int[256]);
        Due.readWell("16 by 16", both);
        Due.same("the bytes of 16 by 16", both.write(), 27 + 255);
    }

    private static MapLumps oneTexture(int powerOfWidth, int powerOfHeight, int... texels) {
        return MapBytes.given(new MapBytes(0, 1, 1, 0).texture(powerOfWidth, powerOfHeight, texels)
            .plainSector().start(0, 0, 0, 0).withCheck());
    }

    private static void powers() {
        for (int b = 5; b < 256; b++) {
            wrong(23, b);
            wrong(24, b);
        }
        Due.read("W of 32", oneTexture(5, 0, new int[32]), 3, 7, -1);
        Due.read("H of 32", oneTexture(0, 5, new int[32]), 3, 8, -1);
        Due.read("W is seen first", oneTexture(5, 5), 3, 7, -1);
    }

    private static MapLumps levels(int floor, int ceiling) {
        return MapBytes.poked(36, floor >> 8, 37, floor, 38, ceiling >> 8, 39, ceiling);
    }

    private static void levelsHold(int floor, int ceiling) {
        MapLumps x = levels(floor, ceiling);
        Due.readWell(floor + ", " + ceiling, x);
        Due.same("FLOOR", x.sector(0, 0), floor);
        Due.same("CEILING", x.sector(0, 1), ceiling);
    }

    private static void levelsFail(int floor, int ceiling, int place) {
        Due.read(floor + ", " + ceiling, levels(floor, ceiling), 3, place, -1);
    }

    private static void floors() {
        levelsHold(-1024, 0);
        levelsHold(1023, 1024);
        levelsFail(-1025, 0, 36);
        levelsFail(1025, 1024, 36);
        levelsFail(1025, 1026, 36);
        levelsFail(-32768, 0, 36);
        levelsFail(32767, 0, 36);
        // 1024 is a FLOOR, so what can not be there is the CEILING above it.
        levelsFail(1024, 1024, 38);
        levelsFail(1024, 1025, 38);
    }

    private static void ceilings() {
        levelsHold(0, 1024);
        levelsHold(-1024, -1023);
        levelsFail(0, 1025, 38);
        levelsFail(0, 32767, 38);
        levelsFail(-1024, -1025, 38);
        levelsFail(0, -32768, 38);
    }

    private static void ceilingsAboveFloors() {
        for (int floor : new int[] {-1024, -256, -1, 0, 1, 255, 256, 1023}) {
            levelsHold(floor, floor + 1);
            levelsFail(floor, floor, 38);
            levelsFail(floor, floor - 1, 38);
        }
    }

    private static void textureOfFloor() {
        // 255 is no SKY below.
        oneByte(40, 0, 1, x -> x.sector(0, 2));
        MapBytes none = new MapBytes(0, 0, 1, 0).sector(0, 1, 0, 255, 0, 0, 0).start(0, 0, 0, 0);
        Due.read("no TEXTURE at all", MapBytes.given(none.withCheck()), 3, 11, -1);
    }

    private static void textureOfCeiling() {
        oneByteOrNone(41, 1, x -> x.sector(0, 3));
    }

    private static void fromVertex() {
        // From 1 it goes nowhere, and from 2 it lies where the other wall is.
        oneByte(54, 0, 3, x -> x.wall(0, 0), 1, 2);
    }

    private static void toAnotherVertex() {
        oneByte(55, 0, 3, x -> x.wall(0, 1), 0);
        wrong(55, 0);
        Due.read("from 3 to 3", MapBytes.poked(54, 3, 55, 3), 3, 55, -1);
        Due.read("from 1 to 1", MapBytes.poked(54, 1, 55, 1), 3, 55, -1);
        Due.read("from 4 to 4", MapBytes.poked(54, 4, 55, 4), 3, 54, -1);
        MapBytes none = new MapBytes(0, 1, 1, 1).texture(0, 0, 0).plainSector().plainWall(0, 0)
            .start(0, 0, 0, 0);
        Due.read("no VERTEX at all", MapBytes.given(none.withCheck()), 3, 19, -1);
        MapBytes one = new MapBytes(1, 1, 1, 1).vertex(0, 0).texture(0, 0, 0).plainSector()
            .plainWall(0, 1).start(0, 0, 0, 0);
        Due.read("no other VERTEX", MapBytes.given(one.withCheck()), 3, 24, -1);
    }

    private static void texturesOfFront() {
        for (int part = 0; part < 3; part++) {
            int what = 4 + part;
            oneByteOrNone(58 + part, 1, x -> x.wall(0, what));
            oneByteOrNone(72 + part, 1, x -> x.wall(1, what));
        }
    }

    private static void texturesOfBack() {
        for (int part = 0; part < 3; part++) {
            int what = 7 + part;
            oneByteOrNone(75 + part, 1, x -> x.wall(1, what));
        }
    }

    private static void texturesWithoutBack() {
        for (int place = 61; place < 64; place++) {
            for (int b = 0; b < 255; b++) {
                wrong(place, b);
            }
        }
        MapLumps x = MapBytes.poked(71, 255, 75, 255, 76, 255, 77, 255);
        Due.readWell("no BACK, and none of its TEXTURES", x);
        for (int what = 7; what < 10; what++) {
            Due.same("wall(1, " + what + ")", x.wall(1, what), 255);
        }
    }

    private static void offsets() {
        for (int offset = 0; offset < 16; offset++) {
            MapLumps across = MapBytes.poked(64, 16 * offset);
            Due.readWell("across " + offset, across);
            Due.same("wall(0, 10)", across.wall(0, 10), offset);
            Due.same("wall(0, 11)", across.wall(0, 11), 0);
            MapLumps down = MapBytes.poked(64, offset);
            Due.readWell("down " + offset, down);
            Due.same("wall(0, 10)", down.wall(0, 10), 0);
            Due.same("wall(0, 11)", down.wall(0, 11), offset);
        }
    }

    private static void offsetsInOneByte() {
        for (int b = 0; b < 256; b++) {
            MapLumps x = MapBytes.poked(64, b);
            Due.readWell("both OFFSETS are " + b, x);
            Due.same("16 * across + down", 16 * x.wall(0, 10) + x.wall(0, 11), b);
            Due.same("across", x.wall(0, 10), b / 16);
        }
    }

    private static void placesOfStart() {
        for (int value : new int[] {-32768, -32767, -1, 0, 1, 32766, 32767}) {
            MapLumps x = twoBytes(82, value);
            Due.readWell("START's x " + value, x);
            Due.same("start(0)", x.start(0), value);
            x = twoBytes(84, value);
            Due.readWell("START's y " + value, x);
            Due.same("start(1)", x.start(1), value);
        }
    }

    private static void marks() {
        int[] due = {77, 72, 1};
        for (int place = 0; place < 3; place++) {
            for (int b = 0; b < 256; b++) {
                if (b != due[place]) {
                    Due.read("byte " + place + " is " + b, MapBytes.poked(place, b), 2, place, -1);
                }
            }
            Due.readWell("byte " + place + " is as due", MapBytes.poked(place, due[place]));
        }
    }

    private static void countOfVertices() {
        Due.readWell("no VERTEX", vertices());
        Due.readWell("one VERTEX", vertices(0, 0));
        int[] places = new int[2 * 128];
        for (int k = 0; k < 128; k++) {
            places[2 * k] = k;
        }
        MapLumps most = vertices(places);
        Due.readWell("128 VERTICES", most);
        Due.same("look(2)", most.look(2), 128);
        Due.same("vertex(127, true)", most.vertex(127, true), 127);
        for (int b = 129; b < 256; b++) {
            wrong(3, b);
        }
    }

    private static void countOfTextures() {
        for (int count = 1; count <= 16; count++) {
            MapBytes map = new MapBytes(0, count, 1, 0);
            for (int k = 0; k < count; k++) {
                map.texture(0, 0, k);
            }
            map.sector(0, 1, count - 1, count - 1, 0, 0, 0).start(0, 0, 0, 0);
            MapLumps x = MapBytes.given(map.withCheck());
            Due.readWell(count + " TEXTURES", x);
            Due.same("look(3)", x.look(3), count);
            Due.same("the last one's texel", x.texture(count - 1, 2), count - 1);
        }
        for (int b = 17; b < 256; b++) {
            wrong(4, b);
        }
        // None is no fault by itself: the reading goes on, up to where the INPUT ends.
        Due.read("no TEXTURE", MapBytes.given(new byte[] {77, 72, 1, 0, 0, 1, 0}), 1, 7, -1);
    }

    private static void countOfSectors() {
        wrong(5, 0);
        for (int count = 1; count <= 32; count++) {
            MapBytes map = new MapBytes(0, 1, count, 0).texture(0, 0, 0);
            for (int k = 0; k < count; k++) {
                map.sector(k, k + 1, 0, 0, 0, 0, 0);
            }
            MapLumps x = MapBytes.given(map.start(0, 0, 0, count - 1).withCheck());
            Due.readWell(count + " SECTORS", x);
            Due.same("look(4)", x.look(4), count);
            Due.same("the last one's FLOOR", x.sector(count - 1, 0), count - 1);
            Due.same("START's SECTOR", x.start(3), count - 1);
        }
        for (int b = 33; b < 256; b++) {
            wrong(5, b);
        }
    }

    private static void countOfWalls() {
        MapLumps none = MapBytes.given(MapBytes.least().withCheck());
        Due.readWell("no WALL", none);
        Due.same("look(5)", none.look(5), 0);
        MapLumps most = MapBytes.given(MapBytes.most().withCheck());
        Due.readWell("128 WALLS", most);
        Due.same("look(5)", most.look(5), 128);
        Due.same("wall(127, 0)", most.wall(127, 0), 127);
        for (int b = 129; b < 256; b++) {
            wrong(6, b);
        }
    }

    private static void numbersOfTwoBytes() {
        int[][] rows = {{0, 0, 0}, {0, 255, 255}, {1, 0, 256}, {127, 255, 32767}, {128, 0, -32768},
            {255, 0, -256}, {255, 255, -1}, {0, 128, 128}, {128, 127, -32641}};
        for (int[] row : rows) {
            MapLumps x = MapBytes.poked(19, row[0], 20, row[1], 82, row[0], 83, row[1]);
            Due.readWell(row[0] + ", " + row[1], x);
            Due.same("vertex(3, true)", x.vertex(3, true), row[2]);
            Due.same("start(0)", x.start(0), row[2]);
        }
    }

    private static void rowByRow() {
        MapLumps x = oneTexture(1, 2, 1, 2, 3, 4, 5, 6, 7, 8);
        Due.readWell("2 by 4", x);
        for (int row = 0; row < 4; row++) {
            for (int column = 0; column < 2; column++) {
                Due.same("texel", x.texture(0, 2 + 16 * row + column), 1 + 2 * row + column);
            }
        }
    }

    private static void sums(int first, int second, int... ahead) {
        MapLumps x = new MapLumps();
        for (int b : ahead) {
            x.give(b, 1);
        }
        x.give(0xFFFF, 2);
        Due.yes("check()", x.check());
        Due.same("the first byte", x.byteAt(ahead.length, true), first);
        Due.same("the second byte", x.byteAt(ahead.length + 1, true), second);
    }

    private static void firstOfCheck() {
        sums(0, 0);
        sums(250, 250, 250);
        sums(0, 0, 251);
        sums(1, 1, 252);
        sums(4, 4, 255);
        sums(250, 248, 249, 1);
        sums(0, 249, 249, 2);
        sums(1, 250, 249, 3);
    }

    private static void secondOfCheck() {
        sums(125, 250, 125, 0);
        sums(126, 0, 125, 1);
        sums(127, 1, 125, 2);
        sums(1, 3, 1, 0, 0);
        sums(1, 1, 0, 0, 1);
        int[] zeros = new int[251];
        zeros[0] = 1;
        sums(1, 0, zeros);
    }
}
