import java.nio.charset.StandardCharsets;

/** Cases, each on a fresh object and for one sentence of the document; those with a wrong answer are printed. */
final class Cases {
    static final int NONE = BoroughBeam.NONE;
    static final int LEAST = Integer.MIN_VALUE;
    static final int MOST = Integer.MAX_VALUE;

    private static final int PROMISES = 46;
    private static final int[] casesOf = new int[PROMISES + 1];
    private static int cases = 0;
    private static int failed = 0;
    private static boolean failing = false;
    private static String title = "";

    private Cases() {
    }

    interface Case {
        void on(BoroughBeam b);
    }

    static void test(int promise, String sentence, Case one) {
        casesOf[promise]++;
        cases++;
        title = "promise " + promise + ", " + sentence;
        failing = false;
        try {
            one.on(new BoroughBeam());
        } catch (RuntimeException e) {
            fail("threw " + e);
        }
        failed += failing ? 1 : 0;
    }

    static void due(String call, long got, long want) {
        if (got != want) {
            fail(call + " answered " + got + ", due is " + want);
        }
    }

    static void due(String call, boolean got, boolean want) {
        if (got != want) {
            fail(call + " answered " + got + ", due is " + want);
        }
    }

    private static void fail(String what) {
        failing = true;
        System.out.println(title + ": " + what);
    }

    /** Ends the program, with exit code 1 if a case failed or one of the promises has no case. */
    static void finish(int... promises) {
        for (int promise : promises) {
            if (casesOf[promise] == 0) {
                failed++;
                System.out.println("promise " + promise + " has no case");
            }
        }
        System.out.println(failed == 0 ? cases + " cases are as due" : failed + " of " + cases + " cases are not as due");
        if (failed != 0) {
            System.exit(1);
        }
    }

    static void people(BoroughBeam b, int... weightsAndPlaces) {
        for (int i = 0; i + 1 < weightsAndPlaces.length; i += 2) {
            b.person(weightsAndPlaces[i], weightsAndPlaces[i + 1]);
        }
    }

    /** Puts a text behind the tape, which then ends with it. */
    static void feed(BoroughBeam b, String text) {
        byte[] bytes = text.getBytes(StandardCharsets.ISO_8859_1);
        int had = b.about(6);
        for (int i = 0; i < bytes.length; i += 20) {
            int[] v = new int[5];
            for (int k = 0; k < 20; k++) {
                v[k / 4] |= (i + k < bytes.length ? bytes[i + k] & 255 : 0) << (24 - 8 * (k % 4));
            }
            b.feed(v[0], v[1], v[2], v[3], v[4]);
        }
        b.end(had + bytes.length);
    }

    static int read(BoroughBeam b, String text) {
        b.end(0);
        feed(b, text);
        return b.text();
    }

    static void rule(BoroughBeam b, String text) {
        int number = read(b, text);
        due("text() of " + text + " is one", number >= 0, true);
        due("by() of " + text, b.by(number), true);
    }

    /** So many hours, by scripts, so that few calls are needed. */
    static void pass(BoroughBeam b, int hours) {
        int many = read(b, "hour 60;".repeat(24));
        int few = read(b, "hour 60;");
        int rest = hours;
        while (rest >= 1440) {
            b.played(many);
            rest -= 1440;
        }
        while (rest >= 60) {
            b.played(few);
            rest -= 60;
        }
        if (rest > 0) {
            b.hour(rest);
        }
        due("is(0)", b.is(0), hours);
    }
}
