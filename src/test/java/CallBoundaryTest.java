import java.util.function.IntUnaryOperator;

/** Promises 1 to 14: a test for each sentence that names a boundary. */
public final class CallBoundaryTest {
    private static final int LOW = Integer.MIN_VALUE;
    private static final int HIGH = Integer.MAX_VALUE;
    private static final int NO_NUMBER = 100000;

    public static void main(String[] args) {
        changes();
        questions();
        Due.end();
    }

    private static void changes() {
        Due.sentence("1: No MAP", CallBoundaryTest::newHasNoMap);
        Due.sentence("1: both INPUT and OUTPUT are empty", CallBoundaryTest::newIsEmpty);
        Due.sentence("2: n bytes of v, 1 .. 8", CallBoundaryTest::giveOneToEight);
        Due.sentence("2: the highest first (of its lowest n)", CallBoundaryTest::giveHighestFirst);
        Due.sentence("2: the INPUT, which has up to 8192", CallBoundaryTest::giveUpToTheRoom);
        Due.sentence("2: false if n is not as said", CallBoundaryTest::giveOtherCounts);
        Due.sentence("2: or there is no room", CallBoundaryTest::giveWithoutRoom);
        Due.sentence("3: the INPUT has its first n bytes alone", CallBoundaryTest::cutAll);
        Due.sentence("3: false if it has fewer", CallBoundaryTest::cutTooMany);
        Due.sentence("3: or n is below 0", CallBoundaryTest::cutBelowNone);
        Due.sentence("4: byte k of the INPUT is b now", CallBoundaryTest::pokeFirstAndLast);
        Due.sentence("4: (its lowest eight bits)", CallBoundaryTest::pokeLowestBits);
        Due.sentence("4: false if there is none such", CallBoundaryTest::pokeNone);
        Due.sentence("5: 0, and THE MAP is that", CallBoundaryTest::readTakes);
        Due.sentence("5: else the fault", CallBoundaryTest::readFaults);
        Due.sentence("5: (The INPUT stays.)", CallBoundaryTest::readLeavesInput);
        Due.sentence("6: THE MAP's bytes are the OUTPUT: how many", CallBoundaryTest::writeCounts);
        Due.sentence("6: the most bytes that 512 calls can bring", CallBoundaryTest::writeMuch);
        Due.sentence("6: NONE without a MAP", CallBoundaryTest::writeNone);
        Due.sentence("7: its last two bytes are the CHECK of all ahead", CallBoundaryTest::checkLastTwo);
        Due.sentence("7: false if it has fewer than two", CallBoundaryTest::checkFewer);
    }

    private static void questions() {
        Due.sentence("8: byte k of the OUTPUT or INPUT", CallBoundaryTest::bytesOfBoth);
        Due.sentence("8: NONE if there is none", CallBoundaryTest::noByte);
        Due.sentence("9: x or y of a VERTEX", CallBoundaryTest::vertices);
        Due.sentence("9: 100000 if there is none such", CallBoundaryTest::noVertex);
        Due.sentence("10: 0: W, 1: H; 2 + 16 * row + column", CallBoundaryTest::textures);
        Due.sentence("10: NONE if there is none such", CallBoundaryTest::noTexture);
        Due.sentence("10: or no such what", CallBoundaryTest::noSuchOfTexture);
        Due.sentence("11: what 0 .. 6", CallBoundaryTest::sectors);
        Due.sentence("11: 100000 if there is none such", CallBoundaryTest::noSector);
        Due.sentence("11: or no such what", CallBoundaryTest::noSuchOfSector);
        Due.sentence("11: 255 for SKY", CallBoundaryTest::sky);
        Due.sentence("12: what 0 .. 14", CallBoundaryTest::walls);
        Due.sentence("12: NONE if there is none such", CallBoundaryTest::noWall);
        Due.sentence("12: or no such what", CallBoundaryTest::noSuchOfWall);
        Due.sentence("12: 255 without one", CallBoundaryTest::noBack);
        Due.sentence("13: what 0 .. 3", CallBoundaryTest::starts);
        Due.sentence("13: 100000 without a MAP", CallBoundaryTest::noStart);
        Due.sentence("13: or if there is no such what", CallBoundaryTest::noSuchOfStart);
        Due.sentence("14: 0: bytes of the INPUT", CallBoundaryTest::lookInput);
        Due.sentence("14: 1: of the OUTPUT", CallBoundaryTest::lookOutput);
        Due.sentence("14: 2 to 5: of THE MAP (NONE without one)", CallBoundaryTest::lookMap);
        Due.sentence("14: 6: the fault of the latest read() (0 without one)", CallBoundaryTest::lookFault);
        Due.sentence("14: 7: its place (NONE without one)", CallBoundaryTest::lookPlace);
        Due.sentence("14: 8: the WALL of a fault 6 (NONE otherwise)", CallBoundaryTest::lookWall);
        Due.sentence("14: NONE for any other which", CallBoundaryTest::lookNone);
    }

    private static MapLumps small() {
        MapLumps x = MapBytes.given(MapBytes.small().withCheck());
        Due.readWell("the small map", x);
        return x;
    }

    private static MapLumps least() {
        MapLumps x = MapBytes.given(MapBytes.least().withCheck());
        Due.readWell("the least map", x);
        return x;
    }

    private static MapLumps most() {
        MapLumps x = MapBytes.given(MapBytes.most().withCheck());
        Due.readWell("the most of all parts", x);
        return x;
    }

    private static void input(MapLumps x, int... due) {
        Due.same("look(0)", x.look(0), due.length);
        for (int k = 0; k < due.length; k++) {
            Due.same("byteAt(" + k + ", true)", x.byteAt(k, true), due[k]);
        }
    }

    private static void none(String call, IntUnaryOperator asked, int due, int... arguments) {
        for (int argument : arguments) {
            Due.same(call + " of " + argument, asked.applyAsInt(argument), due);
        }
    }

    private static void newHasNoMap() {
        MapLumps x = new MapLumps();
        Due.same("write()", x.write(), -1);
        none("look", x::look, -1, 2, 3, 4, 5);
        none("vertex", k -> x.vertex(k, true), NO_NUMBER, 0, -1, 1);
        none("texture", k -> x.texture(k, 0), -1, 0, -1, 1);
        none("sector", k -> x.sector(k, 0), NO_NUMBER, 0, -1, 1);
        none("wall", k -> x.wall(k, 0), -1, 0, -1, 1);
        none("start", x::start, NO_NUMBER, 0, 1, 2, 3);
    }

    private static void newIsEmpty() {
        MapLumps x = new MapLumps();
        none("look", x::look, 0, 0, 1, 6);
        none("look", x::look, -1, 7, 8);
        none("byteAt of the INPUT", k -> x.byteAt(k, true), -1, 0, -1, 1, 8191);
        none("byteAt of the OUTPUT", k -> x.byteAt(k, false), -1, 0, -1, 1, 8191);
        Due.read("nothing", x, 1, 0, -1);
    }

    private static void giveOneToEight() {
        for (int n = 1; n <= 8; n++) {
            MapLumps x = new MapLumps();
            Due.yes("give(v, " + n + ")", x.give(0x8182838485868788L, n));
            int[] due = new int[n];
            for (int k = 0; k < n; k++) {
                due[k] = 0x88 - (n - 1) + k;
            }
            input(x, due);
        }
    }

    private static void giveHighestFirst() {
        MapLumps x = new MapLumps();
        Due.yes("the lowest byte alone", x.give(0x7F00FFL, 1));
        Due.yes("the highest value", x.give(Long.MAX_VALUE, 8));
        Due.yes("the lowest value", x.give(Long.MIN_VALUE, 8));
        Due.yes("the lowest value's lowest", x.give(Long.MIN_VALUE, 2));
        Due.yes("-1", x.give(-1, 2));
        Due.yes("a byte above the others", x.give(0x0100000000L, 5));
        input(x, 255, 127, 255, 255, 255, 255, 255, 255, 255, 128, 0, 0, 0, 0, 0, 0, 0, 0, 0, 255, 255,
            1, 0, 0, 0, 0);
    }

    private static MapLumps filled(int size) {
        MapLumps x = new MapLumps();
        for (int left = size; left > 0; left -= 8) {
            Due.yes("give", x.give(0x0101010101010101L, Math.min(8, left)));
        }
        return x;
    }

    /** 512 calls bring 4096 bytes at most; the room is held to beyond them all the same. */
    private static void giveUpToTheRoom() {
        MapLumps inTime = filled(4096);
        Due.same("look(0)", inTime.look(0), 4096);
        for (int n = 1; n <= 8; n++) {
            MapLumps x = filled(8192 - n);
            Due.yes("give(7, " + n + ") for the last ones", x.give(7, n));
            Due.same("look(0)", x.look(0), 8192);
            Due.same("byteAt(8191, true)", x.byteAt(8191, true), 7);
            Due.yes("poke(8191, 8)", x.poke(8191, 8));
            Due.yes("cut(8192)", x.cut(8192));
            Due.no("cut(8193)", x.cut(8193));
        }
    }

    private static void giveWithoutRoom() {
        for (int n = 1; n <= 8; n++) {
            MapLumps x = filled(8193 - n);
            Due.no("give(7, " + n + ") for one too many", x.give(7, n));
            Due.same("look(0)", x.look(0), 8193 - n);
            Due.yes("give once one is cut", x.cut(8192 - n) && x.give(7, n));
        }
        MapLumps full = filled(8192);
        for (int n = 1; n <= 8; n++) {
            Due.no("give(7, " + n + ") to a full INPUT", full.give(7, n));
        }
        Due.same("the last byte of a full INPUT", full.byteAt(8191, true), 1);
    }

    private static void giveOtherCounts() {
        MapLumps x = new MapLumps();
        x.give(5, 1);
        for (int n : new int[] {0, 9, -1, -8, 10, 64, 257, 65537, LOW, HIGH}) {
            Due.no("give(1, " + n + ")", x.give(1, n));
        }
        input(x, 5);
    }

    private static void cutAll() {
        MapLumps x = new MapLumps();
        Due.yes("cut(0) of none", x.cut(0));
        x.give(0x010203L, 3);
        Due.yes("cut(3) of three", x.cut(3));
        input(x, 1, 2, 3);
        Due.yes("cut(2)", x.cut(2));
        input(x, 1, 2);
        Due.same("the byte that is gone", x.byteAt(2, true), -1);
        x.give(9, 1);
        input(x, 1, 2, 9);
        Due.yes("cut(0)", x.cut(0));
        input(x);
        Due.yes("cut(0) again", x.cut(0));
    }

    private static void cutTooMany() {
        MapLumps x = new MapLumps();
        Due.no("cut(1) of none", x.cut(1));
        x.give(0x010203L, 3);
        Due.no("cut(4)", x.cut(4));
        Due.no("cut(HIGH)", x.cut(HIGH));
        input(x, 1, 2, 3);
        x.cut(1);
        Due.no("cut(2) once one is left", x.cut(2));
        input(x, 1);
    }

    private static void cutBelowNone() {
        MapLumps x = new MapLumps();
        Due.no("cut(-1) of none", x.cut(-1));
        x.give(0x010203L, 3);
        Due.no("cut(-1)", x.cut(-1));
        Due.no("cut(-3)", x.cut(-3));
        Due.no("cut(LOW)", x.cut(LOW));
        input(x, 1, 2, 3);
    }

    private static void pokeFirstAndLast() {
        MapLumps x = new MapLumps();
        x.give(0x010203L, 3);
        Due.yes("poke(0, 7)", x.poke(0, 7));
        input(x, 7, 2, 3);
        Due.yes("poke(2, 8)", x.poke(2, 8));
        input(x, 7, 2, 8);
    }

    private static void pokeLowestBits() {
        int[][] rows = {{0, 0}, {127, 127}, {128, 128}, {255, 255}, {256, 0}, {257, 1}, {-1, 255},
            {-128, 128}, {-129, 127}, {-256, 0}, {0x12345678, 0x78}, {LOW, 0}, {HIGH, 255}};
        MapLumps x = new MapLumps();
        x.give(0x010203L, 3);
        for (int[] row : rows) {
            Due.yes("poke(1, " + row[0] + ")", x.poke(1, row[0]));
            input(x, 1, row[1], 3);
        }
    }

    private static void pokeNone() {
        MapLumps x = new MapLumps();
        Due.no("poke(0, 9) of none", x.poke(0, 9));
        x.give(0x010203L, 3);
        for (int k : new int[] {-1, 3, 4, 8191, 8192, LOW, HIGH}) {
            Due.no("poke(" + k + ", 9)", x.poke(k, 9));
        }
        input(x, 1, 2, 3);
        x.cut(2);
        Due.no("poke(2, 9) of what is gone", x.poke(2, 9));
    }

    private static void readTakes() {
        MapLumps x = small();
        Due.same("look(5)", x.look(5), 2);
        Due.readWell("once more", x);
        Due.same("look(5)", x.look(5), 2);
        Due.same("sector(1, 1)", x.sector(1, 1), 11);
    }

    private static void readFaults() {
        MapLumps x = new MapLumps();
        Due.same("of none", x.read(), 1);
        x.give(76, 1);
        Due.same("of a wrong mark", x.read(), 2);
        x.cut(0);
        MapBytes.give(x, MapBytes.small().withCheck());
        x.poke(86, 64);
        Due.same("of a wrong number", x.read(), 3);
        x.poke(86, 62);
        Due.same("of a wrong CHECK", x.read(), 4);
        x.check();
        x.give(0, 1);
        Due.same("of one byte more", x.read(), 5);
        x.cut(90);
        x.poke(69, 0);
        x.check();
        Due.same("of walls that meet", x.read(), 6);
        x.poke(69, 2);
        x.check();
        Due.same("of a map", x.read(), 0);
    }

    private static void readLeavesInput() {
        byte[] bytes = MapBytes.small().withCheck();
        MapLumps x = MapBytes.given(bytes);
        Due.readWell("without a fault", x);
        sameInput(x, bytes, 90);
        x.cut(50);
        Due.read("with a fault", x, 1, 50, -1);
        sameInput(x, bytes, 50);
    }

    private static void sameInput(MapLumps x, byte[] bytes, int size) {
        Due.same("look(0)", x.look(0), size);
        for (int k = 0; k < size; k++) {
            Due.same("byteAt(" + k + ", true)", x.byteAt(k, true), bytes[k] & 255);
        }
    }

    private static void writeCounts() {
        MapLumps x = least();
        Due.same("write() of the least map", x.write(), 27);
        Due.same("look(1)", x.look(1), 27);
        Due.same("its last byte", x.byteAt(26, false), x.byteAt(26, true));
        Due.same("behind it", x.byteAt(27, false), -1);
        MapBytes.give(x, new byte[] {1, 2, 3});
        Due.same("write() with more INPUT", x.write(), 27);
        x.cut(0);
        Due.same("write() without INPUT", x.write(), 27);
        // A smaller OUTPUT keeps nothing of a larger one.
        MapLumps two = small();
        Due.same("write() of the small map", two.write(), 90);
        two.cut(0);
        MapBytes.give(two, MapBytes.least().withCheck());
        Due.readWell("the least map", two);
        Due.same("look(1) before it is written", two.look(1), 90);
        Due.same("write() of the least map", two.write(), 27);
        Due.same("look(1)", two.look(1), 27);
        Due.same("behind it", two.byteAt(27, false), -1);
    }

    /** 4078 bytes come in 510 calls, so that write() is the 512th; its bytes are asked all the same. */
    private static void writeMuch() {
        byte[] bytes = large(15, 46).withCheck();
        Due.same("bytes", bytes.length, 4078);
        MapLumps x = MapBytes.given(bytes);
        Due.same("read()", x.read(), 0);
        Due.same("write()", x.write(), 4078);
        for (int k = 0; k < bytes.length; k++) {
            Due.same("byteAt(" + k + ", false)", x.byteAt(k, false), bytes[k] & 255);
        }
        byte[] most = MapBytes.most().withCheck();
        MapLumps y = MapBytes.given(most);
        Due.same("read() of the most of all parts", y.read(), 0);
        Due.same("write() of the most of all parts", y.write(), most.length);
    }

    /** Textures of 16 by 16 texels, and vertices. */
    private static MapBytes large(int textures, int vertices) {
        MapBytes map = new MapBytes(vertices, textures, 1, 0);
        for (int k = 0; k < vertices; k++) {
            map.vertex(k, -k);
        }
        for (int k = 0; k < textures; k++) {
            int[] texels = new int[256];
            for (int texel = 0; texel < 256; texel++) {
                texels[texel] = (texel + k) % 16;
            }
            map.texture(4, 4, texels);
        }
        return map.plainSector().start(0, 0, 0, 0);
    }

    private static void writeNone() {
        MapLumps x = new MapLumps();
        Due.same("write()", x.write(), -1);
        MapBytes.give(x, MapBytes.least().withCheck());
        Due.same("write() of what is not read", x.write(), -1);
        x.poke(26, x.byteAt(26, true) + 1);
        Due.same("read()", x.read(), 4);
        Due.same("write() behind a fault", x.write(), -1);
        Due.same("look(1)", x.look(1), 0);
        Due.same("byteAt(0, false)", x.byteAt(0, false), -1);
    }

    private static void checkLastTwo() {
        MapLumps x = new MapLumps();
        x.give(0x0908, 2);
        Due.yes("check() of two", x.check());
        input(x, 0, 0);
        x.cut(0);
        x.give(0x070908L, 3);
        Due.yes("check() of three", x.check());
        input(x, 7, 7, 7);
        Due.yes("check() again", x.check());
        input(x, 7, 7, 7);
        x.give(0xFF, 1);
        Due.yes("check() of four", x.check());
        input(x, 7, 7, 14, 21);
    }

    private static void checkFewer() {
        MapLumps x = new MapLumps();
        Due.no("check() of none", x.check());
        input(x);
        x.give(9, 1);
        Due.no("check() of one", x.check());
        input(x, 9);
        x.give(9, 1);
        Due.yes("check() of two", x.check());
    }

    private static void bytesOfBoth() {
        MapLumps x = least();
        x.write();
        x.poke(0, 128);
        x.poke(26, 255);
        Due.same("the INPUT's first byte", x.byteAt(0, true), 128);
        Due.same("the OUTPUT's first byte", x.byteAt(0, false), 77);
        Due.same("the INPUT's last byte", x.byteAt(26, true), 255);
        MapLumps again = least();
        Due.same("the OUTPUT's last byte", x.byteAt(26, false), again.byteAt(26, true));
        // Bytes are 0 .. 255, in the OUTPUT too.
        MapLumps two = small();
        two.write();
        Due.same("the OUTPUT's byte of a SKY", two.byteAt(41, false), 255);
    }

    private static void noByte() {
        MapLumps x = least();
        none("byteAt of the OUTPUT, not written", k -> x.byteAt(k, false), -1, 0, 1, 26, 27, -1);
        none("byteAt of the INPUT", k -> x.byteAt(k, true), -1, -1, 27, 28, 8191, 8192, LOW, HIGH);
        x.write();
        none("byteAt of the OUTPUT", k -> x.byteAt(k, false), -1, -1, 27, 28, 8191, 8192, LOW, HIGH);
        x.cut(1);
        none("byteAt of the INPUT, cut", k -> x.byteAt(k, true), -1, 1, 2, 26);
        Due.same("byteAt(26, false) stays", x.byteAt(26, false) >= 0 ? 1 : 0, 1);
    }

    private static void vertices() {
        MapLumps x = most();
        for (int k = 0; k < 128; k++) {
            Due.same("vertex(" + k + ", true)", x.vertex(k, true), k);
            Due.same("vertex(" + k + ", false)", x.vertex(k, false), k * k);
        }
        MapLumps far = small();
        Due.same("the lowest x", far.vertex(3, true), -32768);
        Due.same("the highest y", far.vertex(3, false), 32767);
    }

    private static void noVertex() {
        MapLumps none = least();
        MapLumps some = small();
        MapLumps most = most();
        for (boolean across : new boolean[] {true, false}) {
            none("vertex, a MAP with none", k -> none.vertex(k, across), NO_NUMBER, LOW, -1, 0, 1, HIGH);
            none("vertex, a MAP with 4", k -> some.vertex(k, across), NO_NUMBER, LOW, -1, 4, 5, 127, HIGH);
            none("vertex, a MAP with 128", k -> most.vertex(k, across), NO_NUMBER, -1, 128, 129, 255, HIGH);
            none("vertex, no MAP", k -> new MapLumps().vertex(k, across), NO_NUMBER, LOW, -1, 0, 1, HIGH);
        }
    }

    private static void textures() {
        MapLumps x = MapBytes.given(large(1, 0).withCheck());
        Due.readWell("16 by 16", x);
        Due.same("texture(0, 0)", x.texture(0, 0), 16);
        Due.same("texture(0, 1)", x.texture(0, 1), 16);
        for (int what = 2; what < 258; what++) {
            Due.same("texture(0, " + what + ")", x.texture(0, what), (what - 2) % 16);
        }
        MapLumps most = most();
        Due.same("texture(15, 0)", most.texture(15, 0), 1);
        Due.same("texture(15, 1)", most.texture(15, 1), 1);
        Due.same("texture(15, 2)", most.texture(15, 2), 15);
    }

    private static void noTexture() {
        MapLumps two = small();
        MapLumps most = most();
        for (int what : new int[] {0, 1, 2}) {
            none("texture, a MAP with 2", k -> two.texture(k, what), -1, LOW, -1, 2, 3, 15, 16, HIGH);
            none("texture, a MAP with 16", k -> most.texture(k, what), -1, LOW, -1, 16, 17, 255, HIGH);
            none("texture, no MAP", k -> new MapLumps().texture(k, what), -1, LOW, -1, 0, 1, HIGH);
        }
    }

    private static void noSuchOfTexture() {
        MapLumps x = small();
        none("texture(0) of 1 by 1", what -> x.texture(0, what), -1, LOW, LOW + 1, LOW + 2, -2, -1, 3, 17, 18,
            19, 257, 258, 65538, HIGH);
        // Texture 1 is 2 by 4: column 2, the last column of a row, row 4.
        none("texture(1) of 2 by 4", what -> x.texture(1, what), -1, -1, 4, 17, 20, 33, 52, 65, 66, 67, 258,
            HIGH);
        MapLumps large = MapBytes.given(large(1, 0).withCheck());
        Due.readWell("16 by 16", large);
        none("texture(0) of 16 by 16", what -> large.texture(0, what), -1, LOW, -1, 258, 259, 274, 514, HIGH);
    }

    private static void sectors() {
        MapLumps x = small();
        int[] due = {-1024, 1024, 0, 255, 15, 3, 255};
        for (int what = 0; what < due.length; what++) {
            Due.same("sector(0, " + what + ")", x.sector(0, what), due[what]);
        }
        MapLumps most = most();
        Due.same("sector(31, 0)", most.sector(31, 0), 0);
        Due.same("sector(31, 1)", most.sector(31, 1), 1);
        Due.same("sector(31, 6)", most.sector(31, 6), 0);
    }

    private static void noSector() {
        MapLumps two = small();
        MapLumps most = most();
        for (int what = 0; what < 7; what++) {
            int of = what;
            none("sector, a MAP with 2", k -> two.sector(k, of), NO_NUMBER, LOW, -1, 2, 3, 31, 32, HIGH);
            none("sector, no MAP", k -> new MapLumps().sector(k, of), NO_NUMBER, LOW, -1, 0, 1, HIGH);
        }
        none("sector, a MAP with 32", k -> most.sector(k, 1), NO_NUMBER, LOW, -1, 32, 33, 255, HIGH);
    }

    private static void noSuchOfSector() {
        MapLumps x = small();
        none("sector(0)", what -> x.sector(0, what), NO_NUMBER, LOW, -2, -1, 7, 8, 256, 65536, HIGH);
        none("sector(1)", what -> x.sector(1, what), NO_NUMBER, LOW, -2, -1, 7, 8, 256, 65536, HIGH);
    }

    private static void sky() {
        MapLumps x = small();
        Due.same("sector(0, 3), SKY", x.sector(0, 3), 255);
        Due.same("sector(1, 3), a TEXTURE", x.sector(1, 3), 1);
    }

    private static void walls() {
        MapLumps x = small();
        int[] due = {1, 2, 1, 0, 0, 1, 255, 1, 0, 255, 2, 15, 0, 0, 0};
        for (int what = 0; what < due.length; what++) {
            Due.same("wall(1, " + what + ")", x.wall(1, what), due[what]);
        }
        Due.same("wall(0, 10)", x.wall(0, 10), 15);
        Due.same("wall(0, 11)", x.wall(0, 11), 3);
        Due.same("wall(0, 12)", x.wall(0, 12), 3);
        Due.same("wall(0, 13)", x.wall(0, 13), 5);
        Due.same("wall(0, 14)", x.wall(0, 14), 255);
        MapLumps most = most();
        Due.same("wall(127, 0)", most.wall(127, 0), 127);
        Due.same("wall(127, 1)", most.wall(127, 1), 0);
        Due.same("wall(127, 14)", most.wall(127, 14), 0);
    }

    private static void noWall() {
        MapLumps none = least();
        MapLumps two = small();
        MapLumps most = most();
        for (int what = 0; what < 15; what++) {
            int of = what;
            none("wall, a MAP with none", k -> none.wall(k, of), -1, LOW, -1, 0, 1, HIGH);
            none("wall, a MAP with 2", k -> two.wall(k, of), -1, LOW, -1, 2, 3, 127, 128, HIGH);
            none("wall, no MAP", k -> new MapLumps().wall(k, of), -1, LOW, -1, 0, 1, HIGH);
        }
        none("wall, a MAP with 128", k -> most.wall(k, 0), -1, LOW, -1, 128, 129, 255, HIGH);
    }

    private static void noSuchOfWall() {
        MapLumps x = small();
        none("wall(0)", what -> x.wall(0, what), -1, LOW, -2, -1, 15, 16, 256, 65536, HIGH);
        none("wall(1)", what -> x.wall(1, what), -1, LOW, -2, -1, 15, 16, 256, 65536, HIGH);
    }

    private static void noBack() {
        MapLumps x = small();
        none("wall(0), no BACK and no TEXTURES of it", what -> x.wall(0, what), 255, 3, 7, 8, 9);
        Due.same("wall(0, 4), no upper TEXTURE", x.wall(0, 4), 255);
        Due.same("wall(1, 3), a BACK", x.wall(1, 3), 0);
        Due.same("wall(1, 9), no lower TEXTURE of it", x.wall(1, 9), 255);
    }

    private static void starts() {
        MapLumps x = small();
        int[] due = {5, -5, 63, 1};
        for (int what = 0; what < due.length; what++) {
            Due.same("start(" + what + ")", x.start(what), due[what]);
        }
    }

    private static void noStart() {
        MapLumps x = new MapLumps();
        none("start, a new object", x::start, NO_NUMBER, LOW, -1, 0, 1, 2, 3, 4, HIGH);
        MapBytes.give(x, MapBytes.small().withCheck());
        none("start, not read", x::start, NO_NUMBER, 0, 1, 2, 3);
        x.cut(89);
        x.read();
        none("start, a fault", x::start, NO_NUMBER, 0, 1, 2, 3);
    }

    private static void noSuchOfStart() {
        MapLumps x = small();
        none("start", x::start, NO_NUMBER, LOW, -2, -1, 4, 5, 256, 65536, HIGH);
    }

    private static void lookInput() {
        MapLumps x = new MapLumps();
        Due.same("look(0)", x.look(0), 0);
        x.give(0, 1);
        Due.same("look(0)", x.look(0), 1);
        x.give(0, 8);
        Due.same("look(0)", x.look(0), 9);
        x.cut(0);
        Due.same("look(0)", x.look(0), 0);
    }

    private static void lookOutput() {
        MapLumps x = least();
        Due.same("look(1), not written", x.look(1), 0);
        x.write();
        Due.same("look(1)", x.look(1), 27);
        x.cut(0);
        Due.same("look(1), no INPUT", x.look(1), 27);
        x.read();
        Due.same("look(1), a fault", x.look(1), 27);
    }

    private static void lookMap() {
        counts(new MapLumps(), -1, -1, -1, -1);
        MapLumps x = MapBytes.given(MapBytes.small().withCheck());
        counts(x, -1, -1, -1, -1);
        x.cut(89);
        x.read();
        counts(x, -1, -1, -1, -1);
        counts(least(), 0, 1, 1, 0);
        counts(small(), 4, 2, 2, 2);
        counts(most(), 128, 16, 32, 128);
    }

    private static void counts(MapLumps x, int... due) {
        for (int k = 0; k < due.length; k++) {
            Due.same("look(" + (2 + k) + ")", x.look(2 + k), due[k]);
        }
    }

    /** Asks look(which) of an object on which each fault is told in turn, and none in between. */
    private static void told(int which, int without, int... due) {
        MapLumps x = new MapLumps();
        Due.same("before a read()", x.look(which), without);
        MapBytes.give(x, MapBytes.small().withCheck());
        int[][] pokes = {{2, 2}, {3, 129}, {67, 0}, {69, 0}};
        for (int k = 0; k < pokes.length; k++) {
            int old = x.byteAt(pokes[k][0], true);
            x.read();
            Due.same("without a fault", x.look(which), without);
            x.poke(pokes[k][0], pokes[k][1]);
            Due.same("not yet read", x.look(which), without);
            if (k == 3) {
                x.check();
            }
            x.read();
            Due.same("fault told, row " + k, x.look(which), due[k]);
            x.poke(pokes[k][0], old);
            x.check();
            Due.same("the fault of the latest read() stays, row " + k, x.look(which), due[k]);
        }
        x.give(0, 1);
        x.read();
        Due.same("5", x.look(which), due[4]);
        x.cut(89);
        x.read();
        Due.same("1", x.look(which), due[5]);
    }

    private static void lookFault() {
        told(6, 0, 2, 3, 4, 6, 5, 1);
    }

    private static void lookPlace() {
        told(7, -1, 2, 3, 88, 68, 90, 89);
        MapLumps x = new MapLumps();
        x.read();
        Due.same("the lowest place", x.look(7), 0);
    }

    private static void lookWall() {
        told(8, -1, -1, -1, -1, 1, -1, -1);
    }

    private static void lookNone() {
        MapLumps x = small();
        x.write();
        none("look, a MAP", x::look, -1, LOW, -9, -2, -1, 9, 10, 256, 65536, HIGH);
        none("look, a new object", w -> new MapLumps().look(w), -1, LOW, -2, -1, 9, 10, 256, HIGH);
    }
}
