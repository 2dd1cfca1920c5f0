import java.util.ArrayList;
import java.util.List;

/** All that an object answers without being changed: fewer than 300 calls for the small map. */
final class State {
    private State() {
    }

    /** Everything but what is said of the latest read(). */
    static List<Integer> of(MapLumps x) {
        List<Integer> all = new ArrayList<>();
        for (int which = 0; which < 6; which++) {
            all.add(x.look(which));
        }
        for (int k = 0; k < x.look(0); k++) {
            all.add(x.byteAt(k, true));
        }
        for (int k = 0; k < x.look(1); k++) {
            all.add(x.byteAt(k, false));
        }
        parts(x, all);
        return all;
    }

    private static void parts(MapLumps x, List<Integer> all) {
        for (int k = 0; k < x.look(2); k++) {
            all.add(x.vertex(k, true));
            all.add(x.vertex(k, false));
        }
        for (int k = 0; k < x.look(3); k++) {
            all.add(x.texture(k, 0));
            all.add(x.texture(k, 1));
            all.add(x.texture(k, 2));
        }
        for (int k = 0; k < x.look(4); k++) {
            for (int what = 0; what < 7; what++) {
                all.add(x.sector(k, what));
            }
        }
        for (int k = 0; k < x.look(5); k++) {
            for (int what = 0; what < 15; what++) {
                all.add(x.wall(k, what));
            }
        }
        for (int what = 0; what < 4; what++) {
            all.add(x.start(what));
        }
    }

    /** What is said of the latest read(). */
    static List<Integer> said(MapLumps x) {
        return List.of(x.look(6), x.look(7), x.look(8));
    }
}
