import java.util.List;
import java.util.function.Consumer;
import java.util.function.Function;
import java.util.function.Predicate;

/** "What answers false, NONE or a fault changes nothing but what is said", for each call. */
public final class RefusalBoundaryTest {
    private static final int LOW = Integer.MIN_VALUE;
    private static final int HIGH = Integer.MAX_VALUE;

    public static void main(String[] args) {
        Due.sentence("give answers false", RefusalBoundaryTest::gives);
        Due.sentence("give answers false: no room", RefusalBoundaryTest::giveWithoutRoom);
        Due.sentence("cut answers false", RefusalBoundaryTest::cuts);
        Due.sentence("poke answers false", RefusalBoundaryTest::pokes);
        Due.sentence("check answers false", RefusalBoundaryTest::checks);
        Due.sentence("write answers NONE", RefusalBoundaryTest::writes);
        Due.sentence("read answers a fault, with a MAP", RefusalBoundaryTest::faultsWithMap);
        Due.sentence("read answers a fault, without a MAP", RefusalBoundaryTest::faultsWithoutMap);
        Due.sentence("a question changes nothing, answered or not", RefusalBoundaryTest::questions);
        Due.end();
    }

    /** A MAP, its bytes as the OUTPUT, another INPUT than these, and a fault 6 that is told. */
    private static MapLumps full() {
        MapLumps x = MapBytes.given(MapBytes.small().withCheck());
        x.read();
        x.write();
        x.poke(69, 0);
        x.check();
        Due.same("read()", x.read(), 6);
        return x;
    }

    private static MapLumps empty() {
        return new MapLumps();
    }

    private static void refused(String call, MapLumps asked, MapLumps not, Predicate<MapLumps> refusal) {
        Due.no(call, refusal.test(asked));
        same(call, State.said(asked), State.said(not));
        same(call, State.of(asked), State.of(not));
    }

    private static void same(String call, List<Integer> got, List<Integer> due) {
        Due.yes(call + " changes nothing: " + got + " was " + due, got.equals(due));
    }

    private static void inBoth(String call, Predicate<MapLumps> refusal) {
        refused(call + ", empty", empty(), empty(), refusal);
        refused(call + ", full", full(), full(), refusal);
    }

    private static void gives() {
        for (int n : new int[] {LOW, LOW + 1, -8, -1, 0, 9, 10, 16, 256 + 1, 65536 + 8, HIGH}) {
            inBoth("give(-1, " + n + ")", x -> x.give(-1, n));
            inBoth("give(0, " + n + ")", x -> x.give(0, n));
        }
    }

    /** More than 512 calls can bring, but held to all the same. */
    private static void giveWithoutRoom() {
        for (int free = 0; free < 8; free++) {
            MapLumps x = new MapLumps();
            for (int k = 0; k < 1023; k++) {
                x.give(0x0102030405060708L, 8);
            }
            Due.yes("give up to the last ones", x.give(0x1112131415161718L, 8 - free));
            for (int n = free + 1; n <= 8; n++) {
                Due.no(free + " free: give(-1, " + n + ")", x.give(-1, n));
            }
            Due.same("look(0)", x.look(0), 8192 - free);
            Due.same("the last byte", x.byteAt(8191 - free, true), 0x18);
            Due.same("the byte behind it", x.byteAt(8192 - free, true), -1);
            if (free > 0) {
                Due.yes(free + " free: give(0, " + free + ")", x.give(0, free));
            }
            Due.same("look(0), full", x.look(0), 8192);
            Due.no("full: give(0, 1)", x.give(0, 1));
        }
    }

    private static void cuts() {
        for (int n : new int[] {LOW, -256, -1, 91, 92, 8191, 8192, 8193, 65536, HIGH}) {
            inBoth("cut(" + n + ")", x -> x.cut(n));
        }
        refused("cut(1), empty", empty(), empty(), x -> x.cut(1));
    }

    private static void pokes() {
        for (int k : new int[] {LOW, -256, -1, 90, 91, 8191, 8192, 65536, HIGH}) {
            inBoth("poke(" + k + ", 9)", x -> x.poke(k, 9));
        }
        refused("poke(0, 9), empty", empty(), empty(), x -> x.poke(0, 9));
    }

    private static void checks() {
        refused("check() of none", empty(), empty(), MapLumps::check);
        MapLumps asked = full();
        MapLumps not = full();
        asked.cut(1);
        not.cut(1);
        refused("check() of one", asked, not, MapLumps::check);
        asked.cut(0);
        not.cut(0);
        Due.no("check() of none, with a MAP", asked.check());
        same("check() of none, with a MAP", State.said(asked), State.said(not));
        Due.same("look(0)", asked.look(0), 0);
    }

    private static void writes() {
        refused("write(), empty", empty(), empty(), x -> x.write() != MapLumps.NONE);
        MapLumps asked = MapBytes.given(new byte[] {77, 72});
        MapLumps not = MapBytes.given(new byte[] {77, 72});
        asked.read();
        not.read();
        refused("write() behind a fault", asked, not, x -> x.write() != MapLumps.NONE);
    }

    /** Each fault, brought about by changes of the small map. */
    private static void eachFault(Function<Consumer<MapLumps>, MapLumps> made) {
        fault(1, 0, -1, made, x -> x.cut(0));
        fault(1, 89, -1, made, x -> x.cut(89));
        fault(2, 2, -1, made, x -> x.poke(2, 2));
        fault(3, 3, -1, made, x -> x.poke(3, 129));
        fault(3, 87, -1, made, x -> x.poke(87, 2));
        fault(4, 88, -1, made, x -> x.poke(67, 0));
        fault(5, 90, -1, made, x -> x.give(0, 1));
        fault(6, 68, 1, made, x -> {
            x.poke(69, 0);
            x.check();
        });
    }

    private static void fault(int fault, int place, int wall, Function<Consumer<MapLumps>, MapLumps> made,
            Consumer<MapLumps> change) {
        MapLumps asked = made.apply(change);
        MapLumps not = made.apply(change);
        Due.read("fault " + fault, asked, fault, place, wall);
        same("fault " + fault, State.of(asked), State.of(not));
        Due.same("not read", not.look(6), 0);
    }

    private static void faultsWithMap() {
        eachFault(change -> {
            MapLumps x = MapBytes.given(MapBytes.least().withCheck());
            x.read();
            x.write();
            x.cut(0);
            MapBytes.give(x, MapBytes.small().withCheck());
            change.accept(x);
            return x;
        });
    }

    private static void faultsWithoutMap() {
        eachFault(change -> {
            MapLumps x = MapBytes.given(MapBytes.small().withCheck());
            change.accept(x);
            return x;
        });
    }

    private static void questions() {
        MapLumps asked = full();
        for (int k : new int[] {LOW, -1, 0, 1, 2, 4, 90, HIGH}) {
            asked.byteAt(k, true);
            asked.byteAt(k, false);
            asked.vertex(k, true);
            asked.vertex(k, false);
            asked.look(k);
            asked.start(k);
            for (int what : new int[] {LOW, -1, 0, 7, HIGH}) {
                asked.texture(k, what);
                asked.sector(k, what);
                asked.wall(k, what);
            }
        }
        MapLumps not = full();
        same("questions", State.said(asked), State.said(not));
        same("questions", State.of(asked), State.of(not));
    }
}
