import java.io.ByteArrayOutputStream;

/** Puts the bytes of a map together, part by part, and gives bytes to an object. */
final class MapBytes {
    private final ByteArrayOutputStream out = new ByteArrayOutputStream();

    MapBytes(int vertices, int textures, int sectors, int walls) {
        bytes(77, 72, 1, vertices, textures, sectors, walls);
    }

    MapBytes bytes(int... values) {
        for (int value : values) {
            out.write(value);
        }
        return this;
    }

    MapBytes two(int value) {
        return bytes(value >> 8, value);
    }

    MapBytes vertex(int x, int y) {
        return two(x).two(y);
    }

    MapBytes texture(int powerOfWidth, int powerOfHeight, int... texels) {
        return bytes(powerOfWidth, powerOfHeight).bytes(texels);
    }

    MapBytes sector(int floor, int ceiling, int... rest) {
        return two(floor).two(ceiling).bytes(rest);
    }

    MapBytes plainSector() {
        return sector(0, 1, 0, 0, 0, 0, 0);
    }

    MapBytes plainWall(int from, int to) {
        return bytes(from, to, 0, 255, 255, 255, 255, 255, 255, 255, 0, 0, 0, 0);
    }

    MapBytes start(int x, int y, int angle, int sector) {
        return two(x).two(y).bytes(angle, sector);
    }

    int size() {
        return out.size();
    }

    byte[] withCheck() {
        byte[] ahead = out.toByteArray();
        byte[] all = java.util.Arrays.copyOf(ahead, ahead.length + 2);
        all[ahead.length] = (byte) firstSum(ahead);
        all[ahead.length + 1] = (byte) secondSum(ahead);
        return all;
    }

    static int firstSum(byte[] ahead) {
        long sum = 0;
        for (byte b : ahead) {
            sum += b & 255;
        }
        return (int) (sum % 251);
    }

    /** Byte k is in the first sum behind itself and behind every later byte. */
    static int secondSum(byte[] ahead) {
        long sum = 0;
        for (int k = 0; k < ahead.length; k++) {
            sum += (long) (ahead.length - k) * (ahead[k] & 255);
        }
        return (int) (sum % 251);
    }

    static MapLumps given(byte[] bytes) {
        MapLumps x = new MapLumps();
        give(x, bytes);
        return x;
    }

    /** The small map with other bytes at some places, and its CHECK put right. */
    static MapLumps poked(int... placesAndBytes) {
        MapLumps x = given(small().withCheck());
        for (int k = 0; k < placesAndBytes.length; k += 2) {
            Due.yes("poke", x.poke(placesAndBytes[k], placesAndBytes[k + 1]));
        }
        Due.yes("check()", x.check());
        return x;
    }

    static void give(MapLumps x, byte[] bytes) {
        for (int at = 0; at < bytes.length; at += 8) {
            int n = Math.min(8, bytes.length - at);
            long v = 0;
            for (int k = at; k < at + n; k++) {
                v = v << 8 | bytes[k] & 255;
            }
            Due.yes("give(" + v + ", " + n + ")", x.give(v, n));
        }
    }

    /** The least map there is: a floor needs a TEXTURE, so there is one, and one SECTOR; 27 bytes. */
    static MapBytes least() {
        return new MapBytes(0, 1, 1, 0).texture(0, 0, 0).plainSector().start(0, 0, 0, 0);
    }

    /** As many of all parts as there can be, with textures of one texel: a ring of walls along a curve. */
    static MapBytes most() {
        MapBytes map = new MapBytes(128, 16, 32, 128);
        for (int k = 0; k < 128; k++) {
            map.vertex(k, k * k);
        }
        for (int k = 0; k < 16; k++) {
            map.texture(0, 0, k);
        }
        for (int k = 0; k < 32; k++) {
            map.plainSector();
        }
        for (int k = 0; k < 128; k++) {
            map.plainWall(k, (k + 1) % 128);
        }
        return map.start(0, 0, 0, 0);
    }

    /**
     * A map with edges of many numbers. Vertices from byte 7 on, textures from 23 and 26, sectors
     * from 36 and 45, walls from 54 and 68, the start from 82, the check from 88; 90 bytes in all.
     */
    static MapBytes small() {
        return new MapBytes(4, 2, 2, 2)
            .vertex(0, 0).vertex(10, 0).vertex(10, 10).vertex(-32768, 32767)
            .texture(0, 0, 5)
            .texture(1, 2, 15, 1, 2, 3, 4, 0, 6, 7)
            .sector(-1024, 1024, 0, 255, 15, 3, 255)
            .sector(10, 11, 1, 1, 0, 0, 0)
            .bytes(0, 1, 0, 255, 255, 0, 1, 255, 255, 255, 0xF3, 3, 5, 255)
            .bytes(1, 2, 1, 0, 0, 1, 255, 1, 0, 255, 0x2F, 0, 0, 0)
            .start(5, -5, 63, 1);
    }
}
