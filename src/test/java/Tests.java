/**
 * Runs the tests of one file. Each test stands for one sentence of the document and says it in
 * its name; it fails with an answer that is not due, and with anything that is thrown.
 */
final class Tests {
    interface Body {
        void run();
    }

    /** For one test; the slowest takes about one. */
    private static final int MOST_SECONDS = 60;
    private static volatile String name = "";
    private static volatile int count = 0;
    private static int failed = 0;
    private static boolean failing = false;

    private Tests() {
    }

    /** A call that never ends has to fail as well. */
    static void begin() {
        Thread watch = new Thread(Tests::watch);
        watch.setDaemon(true);
        watch.start();
    }

    private static void watch() {
        int seen = count;
        int seconds = 0;
        while (seconds < MOST_SECONDS) {
            try {
                Thread.sleep(1000);
            } catch (InterruptedException e) {
                return;
            }
            seconds = seen == count ? seconds + 1 : 0;
            seen = count;
        }
        System.out.println("'" + name + "': no end after " + MOST_SECONDS + " seconds");
        Runtime.getRuntime().halt(1);
    }

    static void test(String sentence, Body body) {
        name = sentence;
        count++;
        failing = false;
        try {
            body.run();
        } catch (RuntimeException | Error thrown) {
            fail("threw " + thrown);
        }
        if (failing) {
            failed++;
        }
    }

    static void due(String what, long got, long want) {
        if (got != want) {
            fail(what + " answered " + got + ", due is " + want);
        }
    }

    static void due(String what, boolean got, boolean want) {
        if (got != want) {
            fail(what + " answered " + got + ", due is " + want);
        }
    }

    static void due(String what, String got, String want) {
        if (!got.equals(want)) {
            fail(what + " is " + got + ", due is " + want);
        }
    }

    private static void fail(String why) {
        failing = true;
        System.out.println("'" + name + "': " + why);
    }

    static void end() {
        System.out.println(count + " tests, " + failed + " failed");
        if (failed > 0 || count == 0) {
            System.exit(1);
        }
    }
}
