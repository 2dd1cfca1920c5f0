/** Promises 6: write, and 8: byteAt of the OUTPUT. */
public final class WriteTest {
    public static void main(String[] args) {
        withoutMap();
        theBytesOfTheMap();
        outputStays();
        Due.end();
    }

    private static void withoutMap() {
        MapLumps x = new MapLumps();
        Due.same("write()", x.write(), -1);
        x.give(1, 8);
        Due.read("no map", x, 2, 0, -1);
        Due.same("write()", x.write(), -1);
        Due.same("look(1)", x.look(1), 0);
        Due.same("byteAt(0, false)", x.byteAt(0, false), -1);
    }

    private static void holds(MapLumps x, byte[] bytes) {
        Due.same("look(1)", x.look(1), bytes.length);
        for (int k = 0; k < bytes.length; k++) {
            Due.same("byteAt(" + k + ", false)", x.byteAt(k, false), bytes[k] & 255);
        }
        for (int k : new int[] {-1, bytes.length, 8191, 8192, Integer.MIN_VALUE, Integer.MAX_VALUE}) {
            Due.same("byteAt(" + k + ", false)", x.byteAt(k, false), -1);
        }
    }

    private static void theBytesOfTheMap() {
        byte[] small = MapBytes.small().withCheck();
        MapLumps x = MapBytes.given(small);
        Due.readWell("the small map", x);
        Due.same("look(1) before", x.look(1), 0);
        Due.same("write()", x.write(), 90);
        holds(x, small);
        Due.same("write() again", x.write(), 90);
        holds(x, small);
    }

    private static void outputStays() {
        byte[] small = MapBytes.small().withCheck();
        byte[] least = new MapBytes(0, 1, 1, 0).texture(0, 0, 7).plainSector().start(1, 2, 3, 0).withCheck();
        MapLumps x = MapBytes.given(small);
        x.read();
        // What is written is THE MAP, whatever the INPUT has become.
        x.poke(8, 77);
        x.cut(50);
        Due.same("write()", x.write(), 90);
        holds(x, small);
        Due.read("half a map", x, 1, 50, -1);
        Due.same("write() behind a fault", x.write(), 90);
        holds(x, small);
        x.cut(0);
        MapBytes.give(x, least);
        Due.readWell("the least map", x);
        holds(x, small);
        Due.same("write()", x.write(), 27);
        holds(x, least);
        x.cut(0);
        MapBytes.give(x, small);
        Due.readWell("the small map again", x);
        holds(x, least);
        Due.same("write()", x.write(), 90);
        holds(x, small);
    }
}
