/** Promise 5: read, the faults 1 to 5 and their places. */
public final class ReadTest {
    private static final byte[] SMALL = MapBytes.small().withCheck();

    public static void main(String[] args) {
        Due.same("bytes of the small map", SMALL.length, 90);
        endsEarly();
        marks();
        oneWrongByte();
        oneOtherByteThatIsRight();
        wrongLevels();
        verticesAtOnePlace();
        numbersAreJudgedWhole();
        checks();
        bytesLeft();
        theFirstFaultCounts();
        noTextures();
        smallestAndLargest();
        whatStays();
        Due.end();
    }

    private static void endsEarly() {
        for (int n = 0; n < SMALL.length; n++) {
            MapLumps x = MapBytes.given(SMALL);
            x.cut(n);
            Due.read("cut(" + n + ")", x, 1, n, -1);
            Due.same("look(2)", x.look(2), -1);
        }
        Due.readWell("all of it", MapBytes.given(SMALL));
    }

    private static void marks() {
        for (int place = 0; place < 3; place++) {
            for (int b : new int[] {0, 2, 71, 73, 76, 78, 255}) {
                MapLumps x = MapBytes.poked(place, b);
                Due.read("byte " + place + " is " + b, x, 2, place, -1);
                x.cut(place + 1);
                Due.read("byte " + place + " is " + b + ", cut", x, 2, place, -1);
            }
        }
    }

    private static void wrong(int place, int... bytes) {
        for (int b : bytes) {
            MapLumps x = MapBytes.poked(place, b);
            Due.read("byte " + place + " is " + b, x, 3, place, -1);
            x.cut(place + 1);
            Due.read("byte " + place + " is " + b + ", the last one", x, 3, place, -1);
        }
    }

    private static void oneWrongByte() {
        wrong(3, 129, 255);
        wrong(4, 17, 255);
        wrong(5, 0, 33, 255);
        wrong(6, 129, 255);
        for (int power : new int[] {23, 24, 26, 27}) {
            wrong(power, 5, 16, 255);
        }
        for (int texel : new int[] {25, 28, 30, 35}) {
            wrong(texel, 16, 255);
        }
        wrong(40, 2, 254, 255);
        wrong(41, 2, 254);
        wrong(42, 16, 255);
        wrong(43, 4, 255);
        wrong(52, 4, 255);
        wrong(54, 4, 255);
        wrong(55, 4, 255, 0);
        wrong(69, 4, 255, 1);
        wrong(56, 2, 254, 255);
        wrong(57, 2, 254);
        for (int front : new int[] {58, 59, 60, 72, 73, 74}) {
            wrong(front, 2, 254);
        }
        for (int noBack : new int[] {61, 62, 63}) {
            wrong(noBack, 0, 1, 2, 254);
        }
        for (int back : new int[] {75, 76, 77}) {
            wrong(back, 2, 254);
        }
        wrong(65, 4, 255);
        wrong(66, 6, 255);
        wrong(79, 4, 255);
        wrong(80, 6, 255);
        wrong(86, 64, 255);
        wrong(87, 2, 255);
    }

    private static void right(int place, int... bytes) {
        for (int b : bytes) {
            Due.readWell("byte " + place + " is " + b, MapBytes.poked(place, b));
        }
    }

    private static void oneOtherByteThatIsRight() {
        for (int texel : new int[] {25, 28, 35}) {
            right(texel, 0, 15);
        }
        right(40, 0, 1);
        right(41, 0, 1, 255);
        right(42, 0, 15);
        right(43, 0, 3);
        right(44, 0, 128, 255);
        right(56, 0, 1);
        right(57, 0, 1, 255);
        right(71, 0, 1);
        for (int texture : new int[] {58, 59, 60, 72, 73, 74, 75, 76, 77}) {
            right(texture, 0, 1, 255);
        }
        right(64, 0, 255);
        right(65, 0, 1, 2, 3);
        right(66, 0, 5);
        right(67, 0, 255);
        right(82, 0, 127, 128, 255);
        right(84, 0, 127, 128, 255);
        right(86, 0, 63);
        right(87, 0, 1);
        // Without a BACK, the BACK's TEXTURES of the second wall can not be there.
        Due.read("no BACK", MapBytes.poked(71, 255), 3, 75, -1);
        Due.read("no BACK, no upper", MapBytes.poked(71, 255, 75, 255), 3, 76, -1);
        Due.readWell("no BACK, no textures", MapBytes.poked(71, 255, 75, 255, 76, 255));
    }

    private static MapLumps levels(int floor, int ceiling) {
        return MapBytes.poked(45, floor >> 8, 46, floor, 47, ceiling >> 8, 48, ceiling);
    }

    private static void wrongLevels() {
        Due.readWell("-1024, 1024", levels(-1024, 1024));
        Due.readWell("-1024, -1023", levels(-1024, -1023));
        Due.readWell("1023, 1024", levels(1023, 1024));
        Due.readWell("-1, 0", levels(-1, 0));
        Due.read("-1025, 0", levels(-1025, 0), 3, 45, -1);
        Due.read("1025, 1026", levels(1025, 1026), 3, 45, -1);
        Due.read("-32768, 0", levels(-32768, 0), 3, 45, -1);
        Due.read("32767, 0", levels(32767, 0), 3, 45, -1);
        Due.read("0, 1025", levels(0, 1025), 3, 47, -1);
        Due.read("0, 32767", levels(0, 32767), 3, 47, -1);
        Due.read("0, -32768", levels(0, -32768), 3, 47, -1);
        Due.read("0, 0", levels(0, 0), 3, 47, -1);
        Due.read("5, 4", levels(5, 4), 3, 47, -1);
        Due.read("1024, 1024", levels(1024, 1024), 3, 47, -1);
        Due.read("-1024, -1024", levels(-1024, -1024), 3, 47, -1);
        Due.read("-1024, -1025", levels(-1024, -1025), 3, 47, -1);
    }

    private static void verticesAtOnePlace() {
        Due.read("1 where 0 is", MapBytes.poked(12, 0), 3, 13, -1);
        Due.read("2 where 1 is", MapBytes.poked(18, 0), 3, 17, -1);
        Due.read("3 where 0 is", MapBytes.poked(19, 0, 21, 0, 22, 0), 3, 21, -1);
        Due.read("3 where 2 is", MapBytes.poked(19, 0, 20, 10, 21, 0, 22, 10), 3, 21, -1);
        Due.readWell("3 by 2", MapBytes.poked(19, 0, 20, 10, 21, 0, 22, 11));
        Due.readWell("3 with x and y changed", MapBytes.poked(19, 0, 20, 0, 21, 0, 22, 10));
        MapLumps cut = MapBytes.poked(12, 0);
        cut.cut(15);
        Due.read("1 where 0 is, its last byte", cut, 3, 13, -1);
        cut.cut(14);
        Due.read("1 where 0 is, cut", cut, 1, 14, -1);
    }

    private static void numbersAreJudgedWhole() {
        MapLumps x = MapBytes.poked(36, 127);
        Due.read("FLOOR 127 * 256", x, 3, 36, -1);
        x.cut(38);
        Due.read("FLOOR 127 * 256, cut behind", x, 3, 36, -1);
        x.cut(37);
        Due.read("half a FLOOR", x, 1, 37, -1);
        x = MapBytes.poked(38, 127);
        x.cut(39);
        Due.read("half a CEILING", x, 1, 39, -1);
    }

    private static void checks() {
        for (int place = 88; place < 90; place++) {
            for (int more : new int[] {1, 128, 255}) {
                MapLumps x = MapBytes.given(SMALL);
                x.poke(place, SMALL[place] + more);
                Due.read("CHECK at " + place, x, 4, place, -1);
            }
        }
        MapLumps both = MapBytes.given(SMALL);
        both.poke(88, SMALL[88] + 1);
        both.poke(89, SMALL[89] + 1);
        Due.read("CHECK of both", both, 4, 88, -1);
        both.cut(89);
        Due.read("CHECK's first byte alone, wrong", both, 4, 88, -1);
        for (int place = 82; place < 86; place++) {
            MapLumps x = MapBytes.given(SMALL);
            x.poke(place, SMALL[place] + 1);
            Due.read("START changed at " + place, x, 4, 88, -1);
        }
        // The first sum does not see bytes that change places, the second one does.
        MapLumps moved = MapBytes.given(SMALL);
        moved.poke(83, SMALL[85]);
        moved.poke(85, SMALL[83]);
        Due.read("bytes of START in another order", moved, 4, 89, -1);
        // 251 counts as 0 in a sum but is another byte.
        MapLumps sum = MapBytes.given(MapBytes.least().withCheck());
        int first = sum.byteAt(25, true);
        sum.poke(18, 251 - first);
        sum.check();
        Due.same("the first sum", sum.byteAt(25, true), 0);
        Due.readWell("a sum of 0", sum);
        sum.poke(25, 251);
        Due.read("a sum of 251", sum, 4, 25, -1);
    }

    private static void bytesLeft() {
        MapLumps x = MapBytes.given(SMALL);
        x.give(0, 1);
        Due.read("one more", x, 5, 90, -1);
        x.give(0, 8);
        Due.read("nine more", x, 5, 90, -1);
        x.poke(89, SMALL[89] + 1);
        Due.read("more, and the CHECK", x, 4, 89, -1);
        x.poke(89, SMALL[89]);
        x.cut(90);
        Due.readWell("none more", x);
        // With a wall fewer, its bytes are read as START and CHECK, which is never 255.
        Due.read("a wall fewer", MapBytes.poked(6, 1), 4, 74, -1);
    }

    private static void theFirstFaultCounts() {
        Due.read("2 ahead of 3", MapBytes.poked(2, 3, 3, 255), 2, 2, -1);
        Due.read("3 ahead of 3", MapBytes.poked(87, 9, 42, 99), 3, 42, -1);
        Due.read("FLOOR ahead of CEILING", MapBytes.poked(45, 127, 47, 128), 3, 45, -1);
        MapLumps x = MapBytes.poked(86, 64);
        x.poke(89, x.byteAt(89, true) + 1);
        Due.read("3 ahead of 4", x, 3, 86, -1);
        x.cut(60);
        Due.read("1 ahead of 3", x, 1, 60, -1);
        // A wall that goes back where the first one is: 6, but only when all else is right.
        MapLumps y = MapBytes.poked(69, 0);
        Due.read("6", y, 6, 68, 1);
        y.give(0, 1);
        Due.read("5 ahead of 6", y, 5, 90, -1);
        y.cut(90);
        y.poke(88, y.byteAt(88, true) + 1);
        Due.read("4 ahead of 6", y, 4, 88, -1);
    }

    private static void noTextures() {
        MapBytes none = new MapBytes(0, 0, 1, 0).sector(0, 1, 0, 255, 0, 0, 0).start(0, 0, 0, 0);
        Due.read("no texture for a floor", MapBytes.given(none.withCheck()), 3, 11, -1);
        MapBytes walls = new MapBytes(0, 1, 1, 1).texture(0, 0, 0).plainSector().plainWall(0, 0)
            .start(0, 0, 0, 0);
        Due.read("no vertex for a wall", MapBytes.given(walls.withCheck()), 3, 19, -1);
    }

    private static void smallestAndLargest() {
        MapLumps x = MapBytes.given(MapBytes.least().withCheck());
        Due.readWell("the least map", x);
        Due.same("its bytes", x.write(), 27);
        x = MapBytes.given(MapBytes.most().withCheck());
        Due.readWell("the most of all parts", x);
        int[] due = {2655, 0, 128, 16, 32, 128};
        for (int which = 0; which < due.length; which++) {
            Due.same("look(" + which + ")", x.look(which), due[which]);
        }
        Due.same("vertex(127, true)", x.vertex(127, true), 127);
        Due.same("wall(127, 1)", x.wall(127, 1), 0);
        Due.same("sector(31, 1)", x.sector(31, 1), 1);
        Due.same("texture(15, 2)", x.texture(15, 2), 15);
    }

    private static void whatStays() {
        MapLumps x = MapBytes.given(SMALL);
        Due.readWell("first", x);
        Due.readWell("again", x);
        Due.same("look(0)", x.look(0), 90);
        for (int k = 0; k < SMALL.length; k++) {
            Due.same("byteAt(" + k + ", true)", x.byteAt(k, true), SMALL[k] & 255);
        }
        // A fault leaves THE MAP and the OUTPUT as they were.
        Due.same("write()", x.write(), 90);
        x.poke(3, 255);
        Due.read("a fault", x, 3, 3, -1);
        Due.same("look(2)", x.look(2), 4);
        Due.same("vertex(1, true)", x.vertex(1, true), 10);
        Due.same("look(1)", x.look(1), 90);
        x.cut(0);
        Due.same("start(2) of THE MAP", x.start(2), 63);
        MapBytes.give(x, new MapBytes(0, 1, 1, 0).texture(0, 0, 7).plainSector()
            .start(1, 2, 3, 0).withCheck());
        Due.same("start(2) before it is read", x.start(2), 63);
        Due.readWell("another map", x);
        Due.same("start(2) of the other", x.start(2), 3);
        Due.same("look(2) of the other", x.look(2), 0);
        Due.same("vertex(0, true) of the other", x.vertex(0, true), 100000);
        Due.same("wall(0, 0) of the other", x.wall(0, 0), -1);
        Due.same("texture(1, 0) of the other", x.texture(1, 0), -1);
        Due.same("texture(0, 2) of the other", x.texture(0, 2), 7);
    }
}
