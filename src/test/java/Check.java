import java.util.List;
import java.util.NoSuchElementException;

/** What the tests share: answers that are due, and texts put on the tape. */
final class Check {
    interface Call {
        int answer();
    }

    /** The words of the three texts, which no NAME may be. */
    static final List<String> KEYS = List.of("ring", "seat", "word", "rider", "says", "law", "clash", "mounts", "alights", "learns",
            "whistle", "tick", "or", "and", "not", "up", "mute", "latest", "on", "knows", "said", "roll", "number");

    private static int wrong = 0;

    private Check() {
    }

    static int wrong() {
        return wrong;
    }

    static void due(String call, long want, long got) {
        if (want != got) {
            wrong++;
            System.out.println(call + " answered " + got + ", due is " + want);
        }
    }

    static void due(String call, boolean want, boolean got) {
        due(call, want ? 1 : 0, got ? 1 : 0);
    }

    static void dueThrow(String call, Call made) {
        try {
            int got = made.answer();
            wrong++;
            System.out.println(call + " answered " + got + ", due is NoSuchElementException");
        } catch (NoSuchElementException e) {
            // as due
        }
    }

    /** Ends the test: with exit code 1, if an answer was not as due. */
    static void close() {
        System.out.println(wrong == 0 ? "all answers are as due" : wrong + " answers are not as due");
        if (wrong != 0) {
            System.exit(1);
        }
    }

    static int four(byte[] bytes, int from) {
        int number = 0;
        for (int i = from; i < from + 4; i++) {
            number = number << 8 | (i < bytes.length ? bytes[i] & 255 : 0);
        }
        return number;
    }

    static void tape(RideLaws x, String text) {
        byte[] bytes = text.getBytes(java.nio.charset.StandardCharsets.ISO_8859_1);
        x.end(0);
        for (int i = 0; i < bytes.length; i += 20) {
            x.feed(four(bytes, i), four(bytes, i + 4), four(bytes, i + 8), four(bytes, i + 12), four(bytes, i + 16));
        }
        due("end(" + bytes.length + ")", true, x.end(bytes.length));
    }

    static int ride(RideLaws x, String text) {
        tape(x, text);
        return x.ride();
    }

    static int book(RideLaws x, String text, int lives) {
        tape(x, text);
        return x.book(lives);
    }

    static int sentence(RideLaws x, String text) {
        tape(x, text);
        return x.sentence();
    }

    /** A new object with a ride that must have no fault. */
    static RideLaws riding(String text) {
        RideLaws x = new RideLaws();
        int lines = ride(x, text);
        due("fault() of " + text, 0, x.fault());
        due("ride() of " + text, lines < 0 ? 0 : lines, lines);
        return x;
    }

    /** A ride that has a fault of a kind where the mark | stands in the text. */
    static void faultyRide(String marked, int kind) {
        RideLaws x = riding("word kept;");
        String text = marked.replace("|", "");
        due("ride() of " + marked, -1 - marked.indexOf('|'), ride(x, text));
        due("fault() of " + marked, kind, x.fault());
        due("count(2) behind a fault", 1, x.count(2));
        due("count(5) behind a fault", 0, x.count(5));
    }

    /** A book that has a fault of a kind where the mark | stands in the text: nothing is lived, and what was told stays. */
    static void faultyBook(String ride, String marked, int kind) {
        RideLaws x = riding(ride);
        book(x, "tick 7;", 0);
        due("book(1) of " + marked, -2 - marked.indexOf('|'), book(x, marked.replace("|", ""), 1));
        due("fault() of " + marked, kind, x.fault());
        due("told(2) behind a fault", 7, x.told(2));
        due("now(0) behind a fault", 0, x.now(0));
        due("count(5) behind a fault", 0, x.count(5));
        due("undo() behind a fault", -1, x.undo());
    }

    /** A sentence that has a fault of a kind where the mark | stands in the text: the one ahead of it stays. */
    static void faultySentence(String ride, String marked, int kind) {
        RideLaws x = riding(ride);
        sentence(x, "number = 1");
        due("sentence() of " + marked, -1 - marked.indexOf('|'), sentence(x, marked.replace("|", "")));
        due("fault() of " + marked, kind, x.fault());
        due("said(0) behind a fault", 1, x.said(0));
        due("count(5) behind a fault", 0, x.count(5));
    }

    /** A sentence without a fault, which may be said of the riders told as bits. */
    static void fits(RideLaws x, String text, int bits) {
        int ones = sentence(x, text);
        due("fault() of " + text, 0, x.fault());
        due("sentence() of " + text + " is above 0", true, ones > 0);
        int got = 0;
        int many = x.said(-1);
        for (int k = 0; k < many; k++) {
            got |= 1 << x.said(k);
        }
        due("riders of " + text, bits, got);
        due("said(-1) of " + text, Integer.bitCount(bits), many);
        due("said(" + many + ") of " + text, -1, x.said(many));
    }

    /** All that can be asked of a ride without changing it, as one text, so that two objects can be held against one another. */
    static String all(RideLaws x) {
        StringBuilder t = new StringBuilder();
        for (int what = 0; what < 8; what++) {
            t.append("now").append(what).append('=').append(x.now(what)).append(' ');
        }
        for (int what = 0; what < 5; what++) {
            t.append("count").append(what).append('=').append(x.count(what)).append(' ');
        }
        for (int r = 0; r < x.count(3); r++) {
            for (int what = 0; what < 5; what++) {
                t.append("rider").append(r).append(what).append('=').append(x.rider(r, what)).append(' ');
            }
            for (int k = 0; k < 6; k++) {
                t.append("roll").append(r).append(k).append('=').append(x.roll(r, k)).append(' ');
            }
        }
        for (int s = 0; s < x.count(1); s++) {
            for (int what = 0; what < 3; what++) {
                t.append("seat").append(s).append(what).append('=').append(x.seat(s, what)).append(' ');
            }
        }
        for (int l = 0; l < x.count(4); l++) {
            for (int what = 0; what < 5; what++) {
                t.append("law").append(l).append(what).append('=').append(x.law(l, what)).append(' ');
            }
        }
        return t.append("said=").append(x.said(-1)).toString();
    }

    /** Sixty ticks and sixty again, to the last tick. */
    static void toLastTick(RideLaws x) {
        for (int i = 0; i < 17; i++) {
            x.ticks(60);
        }
        due("now(0) at the last tick", 1000, x.now(0));
    }

    static String line(RideLaws x, int r) {
        int n = x.line(r);
        StringBuilder text = new StringBuilder();
        for (int i = 0; i < n; i++) {
            text.append((char) x.byteAt(i));
        }
        return text.toString();
    }

    static void dueText(String call, String want, String got) {
        if (!want.equals(got)) {
            wrong++;
            System.out.println(call + " answered '" + got + "', due is '" + want + "'");
        }
    }
}
