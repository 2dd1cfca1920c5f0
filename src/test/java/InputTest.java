/** Promises 2: give, 3: cut, 4: poke, 7: check, and 8: byteAt of the INPUT. */
public final class InputTest {
    public static void main(String[] args) {
        giveTakesTheLowestBytes();
        giveRefuses();
        giveFillsTheRoom();
        cutShortens();
        pokeSetsOneByte();
        checkOfLittle();
        checkOfMuch();
        Due.end();
    }

    private static void holds(MapLumps x, int... bytes) {
        Due.same("look(0)", x.look(0), bytes.length);
        for (int k = 0; k < bytes.length; k++) {
            Due.same("byteAt(" + k + ", true)", x.byteAt(k, true), bytes[k]);
        }
        Due.same("byteAt(-1, true)", x.byteAt(-1, true), -1);
        Due.same("byteAt(size, true)", x.byteAt(bytes.length, true), -1);
        Due.same("byteAt(MIN, true)", x.byteAt(Integer.MIN_VALUE, true), -1);
        Due.same("byteAt(MAX, true)", x.byteAt(Integer.MAX_VALUE, true), -1);
        Due.same("byteAt(0, false)", x.byteAt(0, false), -1);
    }

    private static void giveTakesTheLowestBytes() {
        MapLumps x = new MapLumps();
        Due.yes("give 1", x.give(0x1122334455667788L, 1));
        Due.yes("give 3", x.give(0x1122334455667788L, 3));
        Due.yes("give 8", x.give(0xFF02030405060780L, 8));
        Due.yes("give -1", x.give(-1, 2));
        Due.yes("give -2", x.give(-2, 5));
        holds(x, 0x88, 0x66, 0x77, 0x88, 255, 2, 3, 4, 5, 6, 7, 128, 255, 255, 255, 255, 255, 255, 254);
    }

    private static void giveRefuses() {
        MapLumps x = new MapLumps();
        Due.yes("give(7, 1)", x.give(7, 1));
        for (int n : new int[] {0, -1, 9, 16, Integer.MIN_VALUE, Integer.MAX_VALUE}) {
            Due.no("give(1, " + n + ")", x.give(1, n));
        }
        holds(x, 7);
    }

    /** The room is more than 512 calls can fill, but it is kept all the same. */
    private static void giveFillsTheRoom() {
        MapLumps x = new MapLumps();
        for (int k = 0; k < 1023; k++) {
            Due.yes("give(k, 8)", x.give(k, 8));
        }
        Due.yes("give to 8191", x.give(3, 7));
        Due.no("give two for one", x.give(4, 2));
        Due.no("give eight for one", x.give(4, 8));
        Due.same("look(0)", x.look(0), 8191);
        Due.yes("give to 8192", x.give(9, 1));
        Due.no("give to 8193", x.give(9, 1));
        Due.same("look(0)", x.look(0), 8192);
        Due.same("byteAt(8191, true)", x.byteAt(8191, true), 9);
        Due.same("byteAt(8192, true)", x.byteAt(8192, true), -1);
        Due.yes("check()", x.check());
        Due.yes("cut(8190)", x.cut(8190));
        Due.yes("give two", x.give(1, 2));
        Due.no("give one more", x.give(1, 1));
    }

    private static void cutShortens() {
        MapLumps x = new MapLumps();
        x.give(0x0102030405L, 5);
        Due.no("cut(6)", x.cut(6));
        Due.no("cut(-1)", x.cut(-1));
        Due.no("cut(MIN)", x.cut(Integer.MIN_VALUE));
        Due.no("cut(MAX)", x.cut(Integer.MAX_VALUE));
        holds(x, 1, 2, 3, 4, 5);
        Due.yes("cut(5)", x.cut(5));
        holds(x, 1, 2, 3, 4, 5);
        Due.yes("cut(2)", x.cut(2));
        holds(x, 1, 2);
        Due.no("cut(3)", x.cut(3));
        x.give(9, 1);
        holds(x, 1, 2, 9);
        Due.yes("cut(0)", x.cut(0));
        holds(x);
    }

    private static void pokeSetsOneByte() {
        MapLumps x = new MapLumps();
        x.give(0x010203L, 3);
        Due.yes("poke(0, 255)", x.poke(0, 255));
        Due.yes("poke(1, 256 + 7)", x.poke(1, 256 + 7));
        Due.yes("poke(2, -1)", x.poke(2, -2));
        for (int k : new int[] {3, -1, Integer.MIN_VALUE, Integer.MAX_VALUE, 8191, 8192}) {
            Due.no("poke(" + k + ", 9)", x.poke(k, 9));
        }
        holds(x, 255, 7, 254);
        Due.yes("cut(2)", x.cut(2));
        Due.no("poke(2, 5)", x.poke(2, 5));
        x.give(0, 1);
        holds(x, 255, 7, 0);
    }

    private static void checkOfLittle() {
        MapLumps x = new MapLumps();
        Due.no("check() of 0", x.check());
        x.give(9, 1);
        Due.no("check() of 1", x.check());
        holds(x, 9);
        x.give(8, 1);
        Due.yes("check() of 2", x.check());
        holds(x, 0, 0);
        x.cut(0);
        x.give(0xFB_00_00L, 3);
        Due.yes("check() of 251", x.check());
        holds(x, 251, 0, 0);
        x.cut(0);
        x.give(0xFA_02_05_07L, 4);
        Due.yes("check() of 250, 2", x.check());
        holds(x, 250, 2, 1, 0);
        x.give(0x1111, 2);
        Due.yes("check() once more", x.check());
        holds(x, 250, 2, 1, 0, 2, 4);
    }

    private static void checkOfMuch() {
        MapLumps x = new MapLumps();
        byte[] ahead = new byte[1000];
        for (int k = 0; k < ahead.length; k++) {
            ahead[k] = (byte) (k * k + 255 - k / 3);
        }
        MapBytes.give(x, ahead);
        x.give(0, 2);
        Due.yes("check()", x.check());
        Due.same("first", x.byteAt(1000, true), MapBytes.firstSum(ahead));
        Due.same("second", x.byteAt(1001, true), MapBytes.secondSum(ahead));
        Due.same("look(0)", x.look(0), 1002);
        for (int k = 0; k < ahead.length; k += 97) {
            Due.same("byteAt(" + k + ", true)", x.byteAt(k, true), ahead[k] & 255);
        }
    }
}
