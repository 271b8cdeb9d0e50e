import java.util.NoSuchElementException;

/** What the tests share: answers that are due, and texts put on the tape. */
final class Check {
    interface Call {
        int answer();
    }

    private static int wrong = 0;

    private Check() {
    }

    static void due(String call, long want, long got) {
        if (want != got) {
            wrong++;
            System.out.println(call + " answered " + got + ", due is " + want);
        }
    }

    static void due(String call, boolean want, boolean got) {
        due(call, want ? 1 : 0, got ? 1 : 0);
    }

    static void dueThrow(String call, Call made) {
        try {
            int got = made.answer();
            wrong++;
            System.out.println(call + " answered " + got + ", due is NoSuchElementException");
        } catch (NoSuchElementException e) {
            // as due
        }
    }

    /** Ends the test: with exit code 1, if an answer was not as due. */
    static void close() {
        System.out.println(wrong == 0 ? "all answers are as due" : wrong + " answers are not as due");
        if (wrong != 0) {
            System.exit(1);
        }
    }

    static int four(byte[] bytes, int from) {
        int number = 0;
        for (int i = from; i < from + 4; i++) {
            number = number << 8 | (i < bytes.length ? bytes[i] & 255 : 0);
        }
        return number;
    }

    static void tape(RideLaws x, String text) {
        byte[] bytes = text.getBytes(java.nio.charset.StandardCharsets.ISO_8859_1);
        x.end(0);
        for (int i = 0; i < bytes.length; i += 20) {
            x.feed(four(bytes, i), four(bytes, i + 4), four(bytes, i + 8), four(bytes, i + 12), four(bytes, i + 16));
        }
        due("end(" + bytes.length + ")", true, x.end(bytes.length));
    }

    static int ride(RideLaws x, String text) {
        tape(x, text);
        return x.ride();
    }

    static int book(RideLaws x, String text, int lives) {
        tape(x, text);
        return x.book(lives);
    }

    static int sentence(RideLaws x, String text) {
        tape(x, text);
        return x.sentence();
    }

    /** A new object with a ride that must have no fault. */
    static RideLaws riding(String text) {
        RideLaws x = new RideLaws();
        int lines = ride(x, text);
        due("fault() of " + text, 0, x.fault());
        due("ride() of " + text, lines < 0 ? 0 : lines, lines);
        return x;
    }

    /** A ride that has a fault of a kind where the mark | stands in the text. */
    static void faultyRide(String marked, int kind) {
        RideLaws x = riding("word kept;");
        String text = marked.replace("|", "");
        due("ride() of " + marked, -1 - marked.indexOf('|'), ride(x, text));
        due("fault() of " + marked, kind, x.fault());
        due("count(2) behind a fault", 1, x.count(2));
        due("count(5) behind a fault", 0, x.count(5));
    }

    static String line(RideLaws x, int r) {
        int n = x.line(r);
        StringBuilder text = new StringBuilder();
        for (int i = 0; i < n; i++) {
            text.append((char) x.byteAt(i));
        }
        return text.toString();
    }

    static void dueText(String call, String want, String got) {
        if (!want.equals(got)) {
            wrong++;
            System.out.println(call + " answered '" + got + "', due is '" + want + "'");
        }
    }
}
