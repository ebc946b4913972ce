import java.nio.charset.StandardCharsets;

/** What the tests share: counting, and putting a text into a museum. */
final class Check {
    interface Call {
        Object answer();
    }

    static final String IOOBE = "IndexOutOfBoundsException";
    static final String IAE = "IllegalArgumentException";
    static final String ISE = "IllegalStateException";
    static final String NSEE = "NoSuchElementException";
    static final int MIN = Integer.MIN_VALUE;
    static final int MAX = Integer.MAX_VALUE;

    private static int passed = 0;
    private static int failed = 0;

    private Check() {
    }

    static void same(String what, Object got, Object due) {
        if (got.equals(due)) {
            passed++;
        } else {
            failed++;
            System.out.println(what + " answered " + got + ", due is " + due);
        }
    }

    static void answers(String what, long due, Call call) {
        Object got = outcome(call);
        same(what, got instanceof Integer i ? (Object) (long) i : got, due);
    }

    static void answersDouble(String what, double due, Call call) {
        same(what, outcome(call), due);
    }

    static void fails(String what, String exception, Call call) {
        same(what, outcome(call), "throws." + exception);
    }

    /** The answer, or the exact class of what was thrown, so that an exception of the machine shows by its own name. */
    static Object outcome(Call call) {
        try {
            return call.answer();
        } catch (RuntimeException e) {
            return "throws." + e.getClass().getSimpleName();
        }
    }

    static void write(MuseumCases museum, byte[] text) {
        int begin = museum.truncate(0);
        for (int at = begin; at < text.length; at += 20) {
            museum.append(four(text, at), four(text, at + 4), four(text, at + 8), four(text, at + 12), four(text, at + 16));
        }
        museum.truncate(text.length);
    }

    static int four(byte[] text, int at) {
        int four = 0;
        for (int i = at; i < at + 4; i++) {
            four = four << 8 | (i < text.length ? text[i] & 255 : ' ');
        }
        return four;
    }

    static byte[] bytes(String text) {
        return text.getBytes(StandardCharsets.ISO_8859_1);
    }

    static MuseumCases museum(String text) {
        MuseumCases museum = new MuseumCases();
        write(museum, bytes(text));
        museum.load();
        return museum;
    }

    /** Everything that can be asked without changing anything, to show that a call left all as it was. */
    static String all(MuseumCases x) {
        return x.errorCode() + " " + x.errorPosition() + state(x);
    }

    static String state(MuseumCases x) {
        StringBuilder s = new StringBuilder();
        for (int i = 0; i < 10; i++) {
            s.append(' ').append(x.report(i));
        }
        for (int n = 0; n < x.report(3); n++) {
            for (int i = 0; i < 11; i++) {
                s.append(' ').append(x.displayCase(n, i));
            }
            for (int i = 0; i < 5; i++) {
                s.append(' ').append(x.balance(n, i));
            }
            for (int i = 0; i < 24 && i < x.report(0); i++) {
                s.append(' ').append(x.recorded(n, i));
            }
            for (int i = 0; i < 5 * x.displayCase(n, 4); i++) {
                s.append(' ').append(x.cassette(n, i / 5, i % 5));
            }
        }
        return s.toString();
    }

    static void failsAndStays(String what, String exception, MuseumCases x, Call call) {
        String before = all(x);
        fails(what, exception, call);
        same(what + " left all as it was", all(x), before);
    }

    static void answersAndStays(String what, long due, MuseumCases x, Call call) {
        String before = all(x);
        answers(what, due, call);
        same(what + " left all as it was", all(x), before);
    }

    /** The calls without an answer, so that they can be told like the others. */
    static Object save(MuseumCases x, int slot) {
        x.save(slot);
        return 0;
    }

    static Object restore(MuseumCases x, int slot) {
        x.restore(slot);
        return 0;
    }

    static Object setSafe(MuseumCases x, int number, int low, int high) {
        x.setSafe(number, low, high);
        return 0;
    }

    static void end(String name) {
        System.out.println(name + ": " + passed + " passed, " + failed + " failed");
        if (failed > 0) {
            System.exit(1);
        }
    }
}
