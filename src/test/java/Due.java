/** Counts and prints every answer that is not the one that is due. */
final class Due {
    private static int asked;
    private static int wrong;

    private Due() {
    }

    static void same(String call, long got, long due) {
        asked++;
        if (got != due) {
            wrong++;
            System.out.println(call + " answered " + got + ", due is " + due);
        }
    }

    static void yes(String call, boolean got) {
        same(call, got ? 1 : 0, 1);
    }

    static void no(String call, boolean got) {
        same(call, got ? 1 : 0, 0);
    }

    /** A test of its own for one sentence of the document: it asks something, and nothing is thrown. */
    static void sentence(String words, Runnable test) {
        int askedBefore = asked;
        int wrongBefore = wrong;
        try {
            test.run();
        } catch (RuntimeException | Error thrown) {
            wrong++;
            System.out.println("thrown: " + thrown);
        }
        if (asked == askedBefore) {
            wrong++;
            System.out.println("nothing was asked");
        }
        if (wrong != wrongBefore) {
            System.out.println("NOT HELD: " + words);
        }
    }

    /** What read() answers, and what is said of it afterwards. */
    static void read(String of, MapLumps x, int fault, int place, int wall) {
        same(of + ": read()", x.read(), fault);
        same(of + ": look(6)", x.look(6), fault);
        same(of + ": look(7)", x.look(7), place);
        same(of + ": look(8)", x.look(8), wall);
    }

    static void readWell(String of, MapLumps x) {
        read(of, x, 0, -1, -1);
    }

    static boolean anyWrong() {
        return wrong != 0;
    }

    static void end() {
        System.out.println(asked + " answers, " + wrong + " not as due");
        if (wrong != 0 || asked == 0) {
            System.exit(1);
        }
    }
}
