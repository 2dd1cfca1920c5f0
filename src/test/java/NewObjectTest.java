/** Promise 1: A new object. */
public final class NewObjectTest {
    public static void main(String[] args) {
        MapLumps x = new MapLumps();
        int[] due = {0, 0, -1, -1, -1, -1, 0, -1, -1};
        for (int which = 0; which < due.length; which++) {
            Due.same("look(" + which + ")", x.look(which), due[which]);
        }
        Due.same("byteAt(0, true)", x.byteAt(0, true), -1);
        Due.same("byteAt(0, false)", x.byteAt(0, false), -1);
        Due.same("write()", x.write(), -1);
        Due.same("vertex(0, true)", x.vertex(0, true), 100000);
        Due.same("texture(0, 0)", x.texture(0, 0), -1);
        Due.same("texture(0, 2)", x.texture(0, 2), -1);
        Due.same("sector(0, 0)", x.sector(0, 0), 100000);
        Due.same("wall(0, 0)", x.wall(0, 0), -1);
        Due.same("start(0)", x.start(0), 100000);
        Due.no("check()", x.check());
        Due.no("poke(0, 0)", x.poke(0, 0));
        Due.no("cut(1)", x.cut(1));
        Due.yes("cut(0)", x.cut(0));
        Due.read("an empty INPUT", x, 1, 0, -1);
        otherObjectsAreApart();
        Due.end();
    }

    private static void otherObjectsAreApart() {
        MapLumps one = MapBytes.given(MapBytes.small().withCheck());
        Due.readWell("one", one);
        Due.same("one: write()", one.write(), 90);
        MapLumps other = new MapLumps();
        Due.same("other: look(0)", other.look(0), 0);
        Due.same("other: look(1)", other.look(1), 0);
        Due.same("other: look(2)", other.look(2), -1);
        Due.same("other: start(0)", other.start(0), 100000);
    }
}
