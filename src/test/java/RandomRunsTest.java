import java.util.Random;

/** All promises: runs of up to 512 calls on new objects, each answer against the model's. */
public final class RandomRunsTest {
    private static final int RUNS = 3000;
    private static final int CALLS = 512;
    private static final int[] EDGES = {0, 1, 2, 3, 4, 5, 6, 15, 16, 17, 31, 32, 33, 63, 64, 72, 77,
        127, 128, 129, 250, 251, 254, 255};
    private static final int[] ODD = {-1, -2, 256, 257, 258, 8191, 8192, 65536, Integer.MIN_VALUE,
        Integer.MAX_VALUE, Integer.MIN_VALUE + 1, Integer.MAX_VALUE - 1};

    private final Random random;
    private final String run;
    private final MapLumps x = new MapLumps();
    private final Model model = new Model();
    private final int[] faults;
    private int calls;

    private RandomRunsTest(int seed, int[] faults) {
        this.random = new Random(seed);
        this.run = "run " + seed + ": ";
        this.faults = faults;
    }

    public static void main(String[] args) {
        int[] faults = new int[7];
        for (int seed = 0; seed < RUNS && !Due.anyWrong(); seed++) {
            new RandomRunsTest(seed, faults).go();
        }
        for (int fault = 0; fault < faults.length; fault++) {
            System.out.println("reads with the fault " + fault + ": " + faults[fault]);
            Due.yes("the fault " + fault + " was met often", faults[fault] >= 500);
        }
        Due.end();
    }

    private void go() {
        while (calls < CALLS) {
            if (model.look(0) == 0 || random.nextInt(60) == 0) {
                newInput();
            } else {
                change();
            }
            if (random.nextInt(3) != 0) {
                check();
            }
            read();
            for (int n = random.nextInt(25); n > 0; n--) {
                ask();
            }
        }
    }

    private void newInput() {
        cut(0);
        byte[] bytes = anyMap().withCheck();
        for (int at = 0; at < bytes.length;) {
            int n = Math.min(bytes.length - at, random.nextInt(4) == 0 ? 1 + random.nextInt(8) : 8);
            long v = random.nextLong();
            for (int k = at; k < at + n; k++) {
                v = v << 8 | bytes[k] & 255;
            }
            give(v, n);
            at += n;
        }
    }

    /** Mostly a map without a fault, or with walls that meet. */
    private MapBytes anyMap() {
        int reach = random.nextInt(3) == 0 ? 65536 : 4 + random.nextInt(40);
        int vertices = random.nextInt(20);
        int textures = 1 + random.nextInt(4);
        int sectors = 1 + random.nextInt(4);
        int walls = vertices < 2 ? 0 : random.nextInt(random.nextInt(3) == 0 ? 20 : 4);
        MapBytes map = new MapBytes(vertices, textures, sectors, walls);
        for (int k = 0; k < vertices; k++) {
            map.vertex(random.nextInt(reach) - reach / 2, random.nextInt(reach) - reach / 2);
        }
        for (int k = 0; k < textures; k++) {
            int width = random.nextInt(random.nextInt(4) == 0 ? 5 : 3);
            int height = random.nextInt(random.nextInt(4) == 0 ? 5 : 3);
            map.texture(width, height, random.ints(1 << width + height, 0, 16).toArray());
        }
        for (int k = 0; k < sectors; k++) {
            int floor = random.nextInt(2048) - 1024;
            int ceiling = floor + 1 + random.nextInt(1024 - floor);
            map.sector(floor, ceiling, random.nextInt(textures), orNone(textures),
                random.nextInt(16), random.nextInt(4), random.nextInt(256));
        }
        for (int k = 0; k < walls; k++) {
            anyWall(map, vertices, textures, sectors);
        }
        return map.start(random.nextInt(), random.nextInt(), random.nextInt(64), random.nextInt(sectors));
    }

    private void anyWall(MapBytes map, int vertices, int textures, int sectors) {
        int from = random.nextInt(vertices);
        int to = (from + 1 + random.nextInt(vertices - 1)) % vertices;
        int back = orNone(sectors);
        map.bytes(from, to, random.nextInt(sectors), back);
        for (int part = 0; part < 6; part++) {
            map.bytes(part > 2 && back == 255 ? 255 : orNone(textures));
        }
        map.bytes(random.nextInt(256), random.nextInt(4), random.nextInt(6), random.nextInt(256));
    }

    private int orNone(int count) {
        return random.nextInt(2) == 0 ? 255 : random.nextInt(count);
    }

    private void change() {
        switch (random.nextInt(9)) {
            case 0:
                give(random.nextLong(), random.nextInt(11) - 1);
                break;
            case 1:
                cut(model.look(0) - random.nextInt(4));
                break;
            case 2:
                cut(random.nextInt(8) == 0 ? random.nextInt(model.look(0) + 2) : odd());
                break;
            default:
                pokeAndPutBack();
                break;
        }
    }

    /** So that most of the map stays right, one byte is changed for one read alone. */
    private void pokeAndPutBack() {
        int k = random.nextInt(3) == 0 ? random.nextInt(8) : random.nextInt(model.look(0));
        int old = model.byteAt(k, true);
        poke(k, anyByte(old));
        if (random.nextInt(3) != 0) {
            check();
        }
        read();
        poke(k, old);
    }

    private int anyByte(int old) {
        switch (random.nextInt(4)) {
            case 0:
                return EDGES[random.nextInt(EDGES.length)];
            case 1:
                return old + random.nextInt(5) - 2;
            default:
                return random.nextInt();
        }
    }

    private int odd() {
        return ODD[random.nextInt(ODD.length)];
    }

    private int index(int most) {
        return random.nextInt(12) == 0 ? odd() : random.nextInt(most);
    }

    private void ask() {
        calls++;
        int k = index(22);
        int what = index(17);
        boolean way = random.nextBoolean();
        switch (random.nextInt(9)) {
            case 0:
                same("write()", x.write(), model.write());
                break;
            case 1:
                k = index(model.look(way ? 0 : 1) + 1);
                same("byteAt(" + k + ", " + way + ")", x.byteAt(k, way), model.byteAt(k, way));
                break;
            case 2:
                same("vertex(" + k + ", " + way + ")", x.vertex(k, way), model.vertex(k, way));
                break;
            case 3:
                k = index(5);
                what = way ? index(4) : index(300);
                same("texture(" + k + ", " + what + ")", x.texture(k, what), model.texture(k, what));
                break;
            case 4:
                k = index(5);
                what = index(9);
                same("sector(" + k + ", " + what + ")", x.sector(k, what), model.sector(k, what));
                break;
            case 5:
                same("wall(" + k + ", " + what + ")", x.wall(k, what), model.wall(k, what));
                break;
            case 6:
                what = index(5);
                same("start(" + what + ")", x.start(what), model.start(what));
                break;
            case 7:
                poke(odd(), k);
                break;
            default:
                what = index(10);
                same("look(" + what + ")", x.look(what), model.look(what));
                break;
        }
    }

    private void give(long v, int n) {
        calls++;
        same("give(" + v + ", " + n + ")", x.give(v, n), model.give(v, n));
    }

    private void cut(int n) {
        calls++;
        same("cut(" + n + ")", x.cut(n), model.cut(n));
    }

    private void poke(int k, int b) {
        calls++;
        same("poke(" + k + ", " + b + ")", x.poke(k, b), model.poke(k, b));
    }

    private void check() {
        calls++;
        same("check()", x.check(), model.check());
    }

    private void read() {
        calls++;
        int due = model.read();
        faults[due]++;
        same("read()", x.read(), due);
        for (int which = 0; which < 9; which++) {
            same("look(" + which + ")", x.look(which), model.look(which));
        }
    }

    private void same(String call, boolean got, boolean due) {
        same(call, got ? 1 : 0, due ? 1 : 0);
    }

    private void same(String call, int got, int due) {
        Due.same(run + call, got, due);
    }
}
