/** Promises 9: vertex, 10: texture, 11: sector, 12: wall, 13: start. */
public final class PartsTest {
    private static final int[] WRONG = {-1, -2, Integer.MIN_VALUE, Integer.MAX_VALUE, 255, 256, 65536};

    public static void main(String[] args) {
        MapLumps x = MapBytes.given(MapBytes.small().withCheck());
        Due.readWell("the small map", x);
        vertices(x);
        textures(x);
        sectors(x);
        walls(x);
        theStart(x);
        allSizesOfTextures();
        Due.end();
    }

    private static void vertices(MapLumps x) {
        int[][] due = {{0, 0}, {10, 0}, {10, 10}, {-32768, 32767}};
        for (int k = 0; k < due.length; k++) {
            Due.same("vertex(" + k + ", true)", x.vertex(k, true), due[k][0]);
            Due.same("vertex(" + k + ", false)", x.vertex(k, false), due[k][1]);
        }
        Due.same("vertex(4, true)", x.vertex(4, true), 100000);
        Due.same("vertex(4, false)", x.vertex(4, false), 100000);
        for (int k : WRONG) {
            Due.same("vertex(" + k + ", true)", x.vertex(k, true), 100000);
            Due.same("vertex(" + k + ", false)", x.vertex(k, false), 100000);
        }
    }

    private static void textures(MapLumps x) {
        int[][] texels = {{15, 1}, {2, 3}, {4, 0}, {6, 7}};
        Due.same("texture(0, 0)", x.texture(0, 0), 1);
        Due.same("texture(0, 1)", x.texture(0, 1), 1);
        Due.same("texture(0, 2)", x.texture(0, 2), 5);
        Due.same("texture(0, 3)", x.texture(0, 3), -1);
        Due.same("texture(0, 18)", x.texture(0, 18), -1);
        Due.same("texture(1, 0)", x.texture(1, 0), 2);
        Due.same("texture(1, 1)", x.texture(1, 1), 4);
        for (int what = 2; what < 300; what++) {
            int row = (what - 2) / 16;
            int column = (what - 2) % 16;
            int due = row < 4 && column < 2 ? texels[row][column] : -1;
            Due.same("texture(1, " + what + ")", x.texture(1, what), due);
        }
        Due.same("texture(2, 0)", x.texture(2, 0), -1);
        Due.same("texture(2, 2)", x.texture(2, 2), -1);
        for (int wrong : WRONG) {
            Due.same("texture(" + wrong + ", 0)", x.texture(wrong, 0), -1);
            Due.same("texture(1, " + wrong + ")", x.texture(1, wrong), -1);
        }
        Due.same("texture(1, MIN + 1)", x.texture(1, Integer.MIN_VALUE + 1), -1);
    }

    private static void sectors(MapLumps x) {
        int[][] due = {{-1024, 1024, 0, 255, 15, 3, 255}, {10, 11, 1, 1, 0, 0, 0}};
        for (int k = 0; k < due.length; k++) {
            for (int what = 0; what < 7; what++) {
                Due.same("sector(" + k + ", " + what + ")", x.sector(k, what), due[k][what]);
            }
            Due.same("sector(" + k + ", 7)", x.sector(k, 7), 100000);
        }
        Due.same("sector(2, 0)", x.sector(2, 0), 100000);
        for (int wrong : WRONG) {
            Due.same("sector(" + wrong + ", 0)", x.sector(wrong, 0), 100000);
            Due.same("sector(0, " + wrong + ")", x.sector(0, wrong), 100000);
        }
    }

    private static void walls(MapLumps x) {
        int[][] due = {
            {0, 1, 0, 255, 255, 0, 1, 255, 255, 255, 15, 3, 3, 5, 255},
            {1, 2, 1, 0, 0, 1, 255, 1, 0, 255, 2, 15, 0, 0, 0},
        };
        for (int k = 0; k < due.length; k++) {
            for (int what = 0; what < 15; what++) {
                Due.same("wall(" + k + ", " + what + ")", x.wall(k, what), due[k][what]);
            }
            Due.same("wall(" + k + ", 15)", x.wall(k, 15), -1);
        }
        Due.same("wall(2, 0)", x.wall(2, 0), -1);
        for (int wrong : WRONG) {
            Due.same("wall(" + wrong + ", 0)", x.wall(wrong, 0), -1);
            Due.same("wall(0, " + wrong + ")", x.wall(0, wrong), -1);
        }
    }

    private static void theStart(MapLumps x) {
        int[] due = {5, -5, 63, 1, 100000};
        for (int what = 0; what < due.length; what++) {
            Due.same("start(" + what + ")", x.start(what), due[what]);
        }
        for (int wrong : WRONG) {
            Due.same("start(" + wrong + ")", x.start(wrong), 100000);
        }
        x.poke(82, 128);
        x.poke(83, 0);
        x.poke(84, 127);
        x.poke(85, 255);
        x.check();
        Due.readWell("START far away", x);
        Due.same("start(0)", x.start(0), -32768);
        Due.same("start(1)", x.start(1), 32767);
    }

    private static void allSizesOfTextures() {
        for (int width = 0; width < 5; width++) {
            for (int height = 0; height < 5; height++) {
                textureOfSize(width, height);
            }
        }
    }

    /** The texture stands between two others, so that all must be found behind it. */
    private static void textureOfSize(int width, int height) {
        int[] texels = new int[1 << width + height];
        for (int k = 0; k < texels.length; k++) {
            texels[k] = (k * 7 + k / 16) % 16;
        }
        MapBytes map = new MapBytes(1, 3, 1, 0).vertex(3, 4).texture(0, 1, 8, 9)
            .texture(width, height, texels).texture(1, 0, 10, 11)
            .sector(-3, 5, 2, 1, 2, 1, 9).start(-1, 1, 2, 0);
        MapLumps x = MapBytes.given(map.withCheck());
        String of = "2 to the " + width + " by 2 to the " + height;
        Due.readWell(of, x);
        Due.same(of + ": W", x.texture(1, 0), 1 << width);
        Due.same(of + ": H", x.texture(1, 1), 1 << height);
        for (int row = 0; row < 17; row++) {
            for (int column = 0; column < 16; column++) {
                boolean there = row < 1 << height && column < 1 << width;
                int due = there ? texels[(row << width) + column] : -1;
                Due.same(of + ": texel", x.texture(1, 2 + 16 * row + column), due);
            }
        }
        Due.same(of + ": texel behind", x.texture(2, 3), 11);
        Due.same(of + ": sector behind", x.sector(0, 0), -3);
        Due.same(of + ": start behind", x.start(0), -1);
    }
}
