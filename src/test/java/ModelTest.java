import java.util.NoSuchElementException;
import java.util.Random;

/** All promises: runs of random calls, each answered alike by RideLaws and by Model. */
public final class ModelTest {
    private static final int RUNS = 1000;
    private static final String[] NAMES = {"a", "b", "c", "d", "e", "f", "g", "h", "lion", "swanboa", "k", "l", "m", "n", "o", "p"};
    private static final String[] ODD = {"ring", "seat", "word", "rider", "says", "law", "clash", "mounts", "alights", "learns",
        "whistle", "tick", "or", "and", "not", "up", "mute", "latest", "on", "knows", "said", "roll", "number", ";", "<", "=", ">",
        "(", ")", ".", "0", "1", "2", "31", "999", "1000", "a1", "abcdefgh", "A", "\t", "a", "b", "zebra", "\u00e4"};

    private final Random random;
    private final RideLaws x = new RideLaws();
    private final Model y = new Model();
    private final int run;
    private String trail = "";

    private ModelTest(int run) {
        this.run = run;
        random = new Random(run);
    }

    public static void main(String[] args) {
        for (int run = 0; run < RUNS; run++) {
            new ModelTest(run).play();
        }
        Check.close();
    }

    private int any(int n) {
        return random.nextInt(n);
    }

    private void due(String call, long want, long got) {
        trail = trail.length() > 400 ? trail.substring(trail.length() - 400) : trail;
        trail += call + "=" + want + " ";
        Check.due("run " + run + ": .. " + trail + "but the last one", want, got);
    }

    private void due(String call, boolean want, boolean got) {
        due(call, want ? 1 : 0, got ? 1 : 0);
    }

    private void play() {
        readRide(rideText());
        if (any(6) == 0) {
            waitLong();
        }
        for (int l = 0; l < 8; l++) {
            due("holds(" + l + ")", y.holds(l), x.holds(l));
        }
        for (int i = 0; i < 120; i++) {
            int what = any(20);
            if (what == 0) {
                readText();
            } else if (what < 9) {
                act();
            } else {
                ask();
            }
        }
    }

    /** Till near TICK 1000, at which what goes by and what would go on part. */
    private void waitLong() {
        for (int i = 0; i < 16; i++) {
            due("ticks(60)", y.ticks(60), x.ticks(60));
        }
        int rest = 1 + any(40);
        due("ticks(" + rest + ")", y.ticks(rest), x.ticks(rest));
    }

    // Texts

    private String name() {
        return NAMES[any(NAMES.length)];
    }

    private static String name(String sort, int i) {
        return sort + (char) ('a' + i);
    }

    private String blank() {
        return any(6) == 0 ? "\n " : " ";
    }

    /** Now and then one more, so that there may be too many of a sort. */
    private int more() {
        return any(8) == 0 ? 1 : 0;
    }

    private String rideText() {
        StringBuilder t = new StringBuilder();
        // Small rings, so that several riders speak in one tick.
        boolean busy = any(3) == 0;
        int rings = (busy ? 3 : 1 + any(3)) + more();
        int seats = any(9) + more();
        int words = any(9) + more();
        int riders = any(7) + more();
        int laws = any(9) + more();
        int[] steps = new int[rings];
        for (int i = 0; i < rings; i++) {
            steps[i] = busy ? 2 + any(2) : any(3) == 0 ? 2 + any(29) : 2 + any(6);
            t.append("ring ").append(name("r", i)).append(' ').append(steps[i]).append(blank()).append(1 + any(9)).append(';');
        }
        for (int i = 0; i < seats; i++) {
            int ring = any(rings);
            t.append("seat ").append(name("s", i)).append(' ').append(name("r", ring)).append(blank()).append(any(steps[ring])).append(';');
        }
        for (int i = 0; i < words; i++) {
            t.append("word ").append(name("w", i)).append(';');
        }
        for (int i = 0; i < riders; i++) {
            t.append("rider ").append(name("p", i));
            t.append(any(3) > 0 && seats > 0 ? blank() + name("s", any(seats)) : "").append(';');
        }
        for (int i = 0; i < 14 && riders > 0 && words > 0; i++) {
            t.append("says ").append(name("p", any(riders))).append(' ').append(name("w", any(Math.min(words, 3)))).append(';');
        }
        // Laws of words that are often said come to hold, and clash, within one tick.
        int lawWords = any(3) == 0 ? words : Math.min(words, 3);
        for (int i = 0; i < laws && words > 0; i++) {
            t.append("law ").append(name("l", i)).append(' ').append(name("w", any(lawWords))).append(' ')
                    .append(name("w", any(lawWords))).append(';');
        }
        int clashes = any(3) == 0 ? 0 : any(16);
        for (int i = 0; i < clashes && laws > 1; i++) {
            t.append("clash ").append(name("l", any(laws))).append(' ').append(name("l", any(laws))).append(';');
        }
        return t.toString();
    }

    /** Takes out the lines at which there is a fault, till there is none. */
    private void readRide(String text) {
        String t = text;
        for (int i = 0; i < 60; i++) {
            int place = -1 - readAs(t, 0);
            if (place < 0) {
                return;
            }
            int from = place >= t.length() ? 0 : t.lastIndexOf(';', place) + 1;
            int to = t.indexOf(';', place);
            t = t.substring(0, from) + (to < 0 ? "" : t.substring(to + 1));
        }
    }

    private String bookText() {
        StringBuilder t = new StringBuilder();
        int lines = any(12) == 0 ? 36 + any(8) : any(8);
        for (int i = 0; i < lines; i++) {
            String rider = name("p", any(3));
            switch (any(5)) {
                case 0 -> t.append(rider).append(" mounts").append(blank()).append(name("s", any(3)));
                case 1 -> t.append(rider).append(blank()).append("alights");
                case 2 -> t.append(rider).append(" learns ").append(name("w", any(3)));
                case 3 -> t.append("whistle");
                default -> t.append("tick ").append(any(12) == 0 ? any(70) : 1 + any(5));
            }
            t.append(';');
        }
        return t.toString();
    }

    private String condText(int depth) {
        StringBuilder t = new StringBuilder(oneText(depth));
        int more = any(4) == 0 ? any(4) : any(2);
        for (int i = 0; i < more; i++) {
            t.append(any(2) == 0 ? " and " : " or ").append(oneText(depth));
        }
        return t.toString();
    }

    private String oneText(int depth) {
        switch (any(depth > 9 ? 6 : 11)) {
            case 0:
                return "up";
            case 1:
                return "mute";
            case 2:
                return "latest";
            case 3:
                return "on " + name("s", any(4));
            case 4:
                return "knows " + name("w", any(4));
            case 5:
                return new String[] {"said", "roll", "number"}[any(3)] + new String[] {"<", " = ", "> "}[any(3)] + any(5);
            case 6:
            case 7:
                return "not " + oneText(depth + 1);
            default:
                return "(" + condText(depth + 1) + ")";
        }
    }

    /** The text with one of its lines told somewhere else, or there as well. */
    private String moved(String text) {
        int from = text.lastIndexOf(';', any(text.length() + 1)) + 1;
        int to = text.indexOf(';', from) + 1;
        if (to == 0) {
            return text;
        }
        String rest = any(2) == 0 ? text : text.substring(0, from) + text.substring(to);
        int into = rest.lastIndexOf(';', any(rest.length() + 1)) + 1;
        return rest.substring(0, into) + text.substring(from, to) + rest.substring(into);
    }

    /** A byte or a token less or more, a line moved, or very long. */
    private String spoiled(String text) {
        int place = any(text.length() + 1);
        switch (any(7)) {
            case 6:
                return moved(text);
            case 0:
                return text.substring(0, place);
            case 1:
                return text.substring(0, place) + " ".repeat(any(400)) + text.substring(place);
            case 2:
                return text.substring(0, place) + text.substring(Math.min(text.length(), place + 1 + any(3)));
            default:
                int gap = text.indexOf(' ', place);
                int at = gap < 0 ? place : gap;
                String odd = any(3) == 0 ? name() : ODD[any(ODD.length)];
                return text.substring(0, at) + " " + odd + text.substring(any(2) == 0 ? at : place);
        }
    }

    private int readAs(String text, int kind) {
        String t = text.length() > 940 ? text.substring(0, 940) : text;
        byte[] bytes = t.getBytes(java.nio.charset.StandardCharsets.ISO_8859_1);
        x.end(0);
        y.end(0);
        for (int i = 0; i < bytes.length; i += 20) {
            int[] n = new int[5];
            for (int k = 0; k < 5; k++) {
                n[k] = Check.four(bytes, i + 4 * k);
            }
            due("feed", y.feed(n[0], n[1], n[2], n[3], n[4]), x.feed(n[0], n[1], n[2], n[3], n[4]));
        }
        due("end", y.end(bytes.length), x.end(bytes.length));
        int want;
        if (kind == 0) {
            want = y.ride();
            due("ride '" + t + "'", want, x.ride());
        } else if (kind == 1) {
            int lives = any(9) == 0 ? any(9) - 4 : any(2);
            want = y.book(lives);
            due("book(" + lives + ") '" + t + "'", want, x.book(lives));
            for (int what = 0; what < 4; what++) {
                due("told(" + what + ")", y.told(what), x.told(what));
            }
        } else {
            want = y.sentence();
            due("sentence '" + t + "'", want, x.sentence());
            due("said(-1)", y.said(-1), x.said(-1));
        }
        due("fault", y.fault(), x.fault());
        return want;
    }

    private void readText() {
        int kind = any(8) == 0 ? 0 : 1 + any(2);
        String text = kind == 0 ? rideText() : kind == 1 ? bookText() : condText(1);
        if (any(2) == 0) {
            text = spoiled(text);
        } else if (kind == 0) {
            readRide(text);
            return;
        }
        readAs(text, kind);
    }

    // Acts and questions, some with numbers of nothing

    private int near(int most) {
        return any(25) == 0 ? random.nextInt() : any(12) == 0 ? any(most + 4) - 2 : any(most);
    }

    private void act() {
        int a = near(6);
        int b = near(8);
        int n = any(5) == 0 ? near(70) : 1 + any(6);
        int seed = random.nextInt();
        switch (any(9)) {
            case 0, 1 -> due("mount(" + a + "," + b + ")", y.mount(a, b), x.mount(a, b));
            case 2 -> due("alight(" + a + ")", y.alight(a), x.alight(a));
            case 3 -> due("learn(" + a + "," + b + ")", y.learn(a, b), x.learn(a, b));
            case 4 -> due("whistle", y.whistle(), x.whistle());
            case 5 -> due("undo", y.undo(), x.undo());
            case 6 -> due("drawn(" + n + "," + seed + ")", y.drawn(n, seed), x.drawn(n, seed));
            case 7 -> keeping(any(3) == 0 ? near(2) : any(2));
            default -> due("ticks(" + n + ")", y.ticks(n), x.ticks(n));
        }
    }

    private void keeping(int k) {
        if (any(2) == 0) {
            due("image(" + k + ")", y.image(k), x.image(k));
        } else if (any(3) == 0) {
            due("restore(" + k + ")", y.restore(k), x.restore(k));
        }
    }

    private interface Asked {
        int answer();
    }

    private static long orThrown(Asked asked) {
        try {
            return asked.answer();
        } catch (NoSuchElementException e) {
            return Long.MAX_VALUE;
        }
    }

    private void ask() {
        int r = near(6);
        int s = near(8);
        int t = near(8);
        int what = near(8);
        int n = near(100);
        int k = near(7);
        switch (any(22)) {
            case 0 -> due("rider(" + r + "," + k + ")", orThrown(() -> y.rider(r, k)), orThrown(() -> x.rider(r, k)));
            case 1 -> due("roll(" + r + "," + k + ")", y.roll(r, k), x.roll(r, k));
            case 2 -> due("seat(" + s + "," + k + ")", y.seat(s, k), x.seat(s, k));
            case 3 -> due("law(" + s + "," + k + ")", y.law(s, k), x.law(s, k));
            case 4 -> due("now(" + what + ")", y.now(what), x.now(what));
            case 5 -> due("comes(" + s + ")", y.comes(s), x.comes(s));
            case 6 -> due("both(" + s + "," + t + ")", y.both(s, t), x.both(s, t));
            case 7 -> due("holds(" + s + ")", y.holds(s), x.holds(s));
            case 8 -> due("aim(" + s + "," + n + ")", y.aim(s, n), x.aim(s, n));
            case 9 -> due("aimSeat", y.aimSeat(), x.aimSeat());
            case 10 -> due("able(" + s + ")", y.able(s), x.able(s));
            case 11 -> due("power(" + r + "," + s + ",0)", orThrown(() -> y.power(r, s, k % 3)), orThrown(() -> x.power(r, s, k % 3)));
            case 12 -> due("stand", y.stand(), x.stand());
            case 13 -> due("standing", y.standing(), x.standing());
            case 14 -> due("all", y.all(), x.all());
            case 15 -> due("part(" + r + "," + k % 3 + ")", orThrown(() -> y.part(r, k % 3)), orThrown(() -> x.part(r, k % 3)));
            case 16 -> due("most", y.most(), x.most());
            case 17 -> due("line(" + r + ")", y.line(r), x.line(r));
            case 18 -> due("byteAt(" + n / 3 + ")", y.byteAt(n / 3), x.byteAt(n / 3));
            case 19 -> due("odds(" + s + "," + n / 3 + "," + n + ")", y.odds(s, n / 3, n * n), x.odds(s, n / 3, n * n));
            case 20 -> due("said(" + (k - 1) + ")", y.said(k - 1), x.said(k - 1));
            default -> due("count(" + k + ")", y.count(k), x.count(k));
        }
    }
}
