/** Promise 14: look. */
public final class LookTest {
    public static void main(String[] args) {
        MapLumps x = MapBytes.given(MapBytes.small().withCheck());
        sees(x, 90, 0, -1, -1, -1, -1, 0, -1, -1);
        x.read();
        sees(x, 90, 0, 4, 2, 2, 2, 0, -1, -1);
        x.write();
        sees(x, 90, 90, 4, 2, 2, 2, 0, -1, -1);
        x.poke(69, 0);
        sees(x, 90, 90, 4, 2, 2, 2, 0, -1, -1);
        x.read();
        sees(x, 90, 90, 4, 2, 2, 2, 4, 88, -1);
        x.check();
        sees(x, 90, 90, 4, 2, 2, 2, 4, 88, -1);
        x.read();
        sees(x, 90, 90, 4, 2, 2, 2, 6, 68, 1);
        x.cut(2);
        sees(x, 2, 90, 4, 2, 2, 2, 6, 68, 1);
        x.read();
        sees(x, 2, 90, 4, 2, 2, 2, 1, 2, -1);
        x.poke(0, 0);
        x.read();
        sees(x, 2, 90, 4, 2, 2, 2, 2, 0, -1);
        x.cut(0);
        MapBytes.give(x, new MapBytes(1, 3, 4, 0).vertex(0, 0)
            .texture(0, 0, 1).texture(0, 0, 2).texture(0, 0, 3)
            .plainSector().plainSector().plainSector().plainSector().start(0, 0, 0, 0).withCheck());
        sees(x, 64, 90, 4, 2, 2, 2, 2, 0, -1);
        x.read();
        sees(x, 64, 90, 1, 3, 4, 0, 0, -1, -1);
        x.write();
        sees(x, 64, 64, 1, 3, 4, 0, 0, -1, -1);
        Due.end();
    }

    private static void sees(MapLumps x, int... due) {
        for (int which = 0; which < due.length; which++) {
            Due.same("look(" + which + ")", x.look(which), due[which]);
        }
        for (int which : new int[] {-1, 9, 10, 256, Integer.MIN_VALUE, Integer.MAX_VALUE}) {
            Due.same("look(" + which + ")", x.look(which), -1);
        }
    }
}
