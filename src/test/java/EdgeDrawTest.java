/** Terms of draws, and promises 31 and 32: drawn, odds. */
public final class EdgeDrawTest {
    // Five seats (s and t are taken), three words; r has all words that he may, q, o and n are off, p, o and n are mute.
    private static final String TEXT = "ring a 7 1;seat s a 1;seat t a 2;seat u a 3;seat w a 4;seat y a 5;word c;word d;word e;"
            + "rider r s;rider q;rider p t;rider o;rider n;" + "says r c;".repeat(6) + "says q d;law l c c;law m d d;";
    private static final int NOTHING = 7;

    public static void main(String[] args) {
        Edges.run(EdgeDrawTest.class);
    }

    /** The least seed, from one on, whose draws are as told: pairs of a draw's n and what it is. */
    private static int seed(int from, int... pairs) {
        for (int seed = from; seed < from + 100_000_000; seed++) {
            int x = seed;
            boolean alike = true;
            for (int i = 0; i < pairs.length && alike; i += 2) {
                x = x * 1103515245 + 12345;
                alike = (x >>> 8) % pairs[i] == pairs[i + 1];
            }
            if (alike) {
                return seed;
            }
        }
        throw new IllegalStateException("no seed has these draws");
    }

    /** A draw by hand, in wide numbers: the low 32 bits are the int, the 24 above the lowest 8 the draw. */
    @Says("DRAWN by a seed x: for each draw of n x becomes x * 1103515245 + 12345 (an int, wrapping), the draw is (x >>> 8) % n")
    static void draws() {
        int[] seeds = {0, 1, -1, 2, 12345, -12345, 1 << 30, Integer.MAX_VALUE, Integer.MIN_VALUE};
        int acts = 0;
        for (int first : seeds) {
            for (int i = 0; i < 16; i++) {
                int seed = first + i;
                long wide = (seed & 0xffffffffL) * 1103515245L + 12345L & 0xffffffffL;
                int draw = (int) ((wide >> 8) % 12);
                RideLaws x = Check.riding(TEXT);
                x.ticks(6);
                x.drawn(1, seed);
                Check.due("whistles behind drawn(1, " + seed + "), a draw of " + draw, draw == 2 ? 1 : 0, x.now(7));
                acts += draw == 2 ? 1 : 0;
            }
        }
        Check.due("some of them whistled", true, acts > 5);
    }

    @Says("each TICK: a draw of 12")
    static void eachTick() {
        for (int draw = 3; draw < 12; draw++) {
            RideLaws x = Check.riding(TEXT);
            RideLaws y = Check.riding(TEXT);
            x.ticks(6);
            y.ticks(6);
            x.drawn(1, seed(5, 12, draw));
            y.ticks(1);
            Check.dueText("all behind a draw of " + draw, Check.all(y), Check.all(x));
        }
        RideLaws x = Check.riding(TEXT);
        x.ticks(6);
        Check.due("drawn of three", 3, x.drawn(3, seed(0, 12, NOTHING, 12, NOTHING, 12, 2)));
        Check.due("now(0)", 9, x.now(0));
        Check.due("now(7), the third draw is the third tick's", 1, x.now(7));
    }

    @Says("0: a draw of all RIDERS, of all SEATS")
    static void mountsByDraws() {
        int[] off = {1, 3, 4};
        for (int r : off) {
            for (int s = 2; s < 5; s++) {
                RideLaws x = Check.riding(TEXT);
                x.drawn(1, seed(9, 12, 0, 5, r, 5, s));
                Check.due("rider(" + r + ", 0)", s, x.rider(r, 0));
                Check.due("now(6)", 3 + (1 << s), x.now(6));
                Check.due("now(0)", 1, x.now(0));
            }
        }
    }

    /** Of one alone there is a draw, too, whatever it is: 0. */
    @Says("a draw of all RIDERS, of all")
    static void oneOfEach() {
        String one = "ring a 7 1;seat s a 1;word c;rider r;";
        RideLaws x = Check.riding(one);
        x.drawn(1, seed(0, 12, 0));
        Check.due("rider(0, 0) of one rider and one seat", 0, x.rider(0, 0));
        x = Check.riding(one);
        x.drawn(1, seed(0, 12, 1));
        Check.due("roll(0, 0) of one rider and one word", 0, x.roll(0, 0));
        x = Check.riding(one);
        x.drawn(2, seed(0, 12, 0, 1, 0, 1, 0, 12, 1));
        Check.due("rider(0, 0), two draws of one", 0, x.rider(0, 0));
        Check.due("roll(0, 0), the fourth draw is the next tick's", 0, x.roll(0, 0));
        Check.due("rider(0, 1)", 1, x.rider(0, 1));
    }

    /** Neither is drawn: the next draw is the next tick's. */
    @Says("(no RIDERS or no SEATS: neither)")
    static void noRidersOrNoSeats() {
        RideLaws x = Check.riding("word c;word d;word e;rider r;rider q;");
        x.drawn(2, seed(0, 12, 0, 12, 1, 2, 1, 3, 2));
        Check.due("rider(0, 1) without seats", 0, x.rider(0, 1));
        Check.due("roll(1, 0) without seats", 2, x.roll(1, 0));
        Check.due("rider(1, 1) without seats", 1, x.rider(1, 1));
        RideLaws y = Check.riding("ring a 7 1;seat s a 1;word c;");
        Check.due("drawn(60, 1) without riders", 60, y.drawn(60, 1));
        Check.due("now(6) without riders", 0, y.now(6));
        y.drawn(1, seed(0, 12, 0));
        Check.due("seat(0, 2) without riders", -1, y.seat(0, 2));
        Check.due("now(6) without riders, a draw of 0", 0, y.now(6));
        Check.due("drawn(60, 1) of no ride", 60, new RideLaws().drawn(60, 1));
    }

    @Says("he MOUNTS that, or ALIGHTS, if he is on one")
    static void mountsOrAlights() {
        for (int s = 0; s < 5; s++) {
            RideLaws x = Check.riding(TEXT);
            x.drawn(1, seed(0, 12, 0, 5, 2, 5, s));
            Check.due("rider(2, 0), he was on one, a draw of seat " + s, -1, x.rider(2, 0));
            Check.due("seat(1, 2)", -1, x.seat(1, 2));
            Check.due("now(6)", 1, x.now(6));
        }
        RideLaws x = Check.riding(TEXT);
        x.drawn(2, seed(0, 12, 0, 5, 2, 5, 3, 12, 0, 5, 2, 5, 3));
        Check.due("rider(2, 0), he alighted, then mounted", 3, x.rider(2, 0));
    }

    @Says("1: a draw of all RIDERS, of all WORDS")
    static void learnsByDraws() {
        for (int r = 1; r < 5; r++) {
            for (int w = 0; w < 3; w++) {
                RideLaws x = Check.riding(TEXT);
                int before = x.rider(r, 1);
                x.drawn(1, seed(0, 12, 1, 5, r, 3, w));
                Check.due("roll(" + r + ", " + before + ")", w, x.roll(r, before));
                Check.due("rider(" + r + ", 1)", before + 1, x.rider(r, 1));
            }
        }
    }

    @Says("(none of these or those: neither): he LEARNS that")
    static void noRidersOrNoWords() {
        RideLaws x = Check.riding("ring a 7 1;seat s a 1;seat t a 2;seat u a 3;rider r;rider q;");
        x.drawn(2, seed(0, 12, 1, 12, 0, 2, 1, 3, 2));
        Check.due("rider(0, 0) without words", -1, x.rider(0, 0));
        Check.due("rider(1, 0) without words", 2, x.rider(1, 0));
        RideLaws y = Check.riding("word c;word d;");
        Check.due("drawn(60, 9) without riders", 60, y.drawn(60, 9));
        y.drawn(1, seed(0, 12, 1));
        Check.ride(y, "word c;rider r;");
        Check.due("rider(0, 1) of the next ride", 0, y.rider(0, 1));
    }

    @Says("2: the WHISTLE")
    static void whistlesByDraws() {
        RideLaws x = Check.riding(TEXT);
        x.ticks(6);
        Check.due("now(1)", 0, x.now(1));
        x.drawn(1, seed(0, 12, 2));
        Check.due("now(7)", 1, x.now(7));
        Check.due("now(1)", -1, x.now(1));
        Check.due("now(0)", 7, x.now(0));
    }

    @Says("(each, if it can be)")
    static void ifItCanBe() {
        RideLaws x = Check.riding(TEXT);
        x.drawn(1, seed(0, 12, 0, 5, 1, 5, 0));
        Check.due("rider(1, 0), somebody is there", -1, x.rider(1, 0));
        Check.due("seat(0, 2)", 0, x.seat(0, 2));
        x.drawn(1, seed(0, 12, 1, 5, 0, 3, 2));
        Check.due("rider(0, 1), his roll has 6", 6, x.rider(0, 1));
        Check.due("rider(0, 4)", 1, x.rider(0, 4));
        x.drawn(1, seed(0, 12, 2));
        Check.due("now(7), nothing was said", 0, x.now(7));
        // What cannot be has been drawn for all the same: the draw behind it is the next tick's.
        RideLaws y = Check.riding(TEXT);
        y.drawn(2, seed(0, 12, 0, 5, 1, 5, 0, 12, 0, 5, 1, 5, 3));
        Check.due("rider(1, 0)", 3, y.rider(1, 0));
        RideLaws z = Check.riding(TEXT);
        z.drawn(2, seed(0, 12, 1, 5, 0, 3, 2, 12, 1, 5, 2, 3, 2));
        Check.due("roll(2, 0)", 2, z.roll(2, 0));
        Check.due("rider(0, 1)", 6, z.rider(0, 1));
    }

    /** Who mounts a seat that comes by in the same tick speaks in it; who alights does not. */
    @Says("then the TICK.")
    static void thenTheTick() {
        RideLaws x = Check.riding("ring a 3 1;seat s a 2;word c;word d;rider r s;rider q;says r c;says q d;");
        x.drawn(1, seed(0, 12, 0, 2, 0, 1, 0));
        Check.due("now(4), he alighted ahead of it", 0, x.now(4));
        Check.due("now(0)", 1, x.now(0));
        x = Check.riding("ring a 3 1;seat s a 2;word c;word d;rider r;rider q;says r c;says q d;");
        x.drawn(1, seed(0, 12, 0, 2, 1, 1, 0));
        Check.due("now(1), he mounted ahead of it", 1, x.now(1));
        x = Check.riding("ring a 3 1;seat s a 2;word c;word d;rider r s;rider q;");
        x.drawn(1, seed(0, 12, 1, 2, 0, 2, 1));
        Check.due("now(1), he learned ahead of it", 1, x.now(1));
        x = Check.riding("ring a 2 2;seat s a 0;word c;rider r s;says r c;law l c c;");
        x.ticks(2);
        x.drawn(1, seed(0, 12, 2));
        Check.due("now(3), the whistle came ahead of it", 0, x.now(3));
        Check.due("now(1), and the word behind it", 0, x.now(1));
    }

    @Says(of = 31, value = "n (1 to 60) TICKS DRAWN by a seed: how many went by")
    static void drawn() {
        RideLaws x = Check.riding(TEXT);
        Check.due("drawn(1, 3)", 1, x.drawn(1, 3));
        Check.due("drawn(60, 3)", 60, x.drawn(60, 3));
        Check.due("now(0)", 61, x.now(0));
        Check.toLastTick(x);
        x.undo();
        Check.due("now(0)", 961, x.now(0));
        Check.due("drawn(38, 3)", 38, x.drawn(38, 3));
        Check.due("drawn(60, 3) at 999", 1, x.drawn(60, 3));
        String before = Check.all(x);
        Check.due("drawn(60, 3) at 1000", 0, x.drawn(60, 3));
        Check.due("drawn(1, 2) at 1000", 0, x.drawn(1, seed(0, 12, 2)));
        Check.dueText("all at 1000", before, Check.all(x));
    }

    @Says(of = 31, value = "NONE: not as told.")
    static void drawnNone() {
        RideLaws x = Check.riding(TEXT);
        String before = Check.all(x);
        int[] others = {0, -1, 61, 62, Integer.MAX_VALUE, Integer.MIN_VALUE};
        for (int n : others) {
            Check.due("drawn(" + n + ", 1)", -1, x.drawn(n, 1));
        }
        Check.dueText("all", before, Check.all(x));
        Check.due("undo()", -1, x.undo());
    }

    @Says(of = 32, value = "Of n (1 to 30) seeds x, x and 1, ..")
    static void oddsOfSeeds() {
        RideLaws x = Check.riding(TEXT);
        int[] firsts = {0, -3, 1000, Integer.MAX_VALUE - 2};
        for (int first : firsts) {
            int good = 0;
            for (int i = 0; i < 30; i++) {
                good += x.odds(0, 1, first + i);
                if (i == 0 || i == 1 || i == 29) {
                    Check.due("odds(0, " + (i + 1) + ", " + first + ")", good, x.odds(0, i + 1, first));
                }
            }
            Check.due("odds of some, not all: " + good, true, good > 0 && good < 30);
        }
    }

    @Says(of = 32, value = "by how many a LAW holds behind 30 TICKS DRAWN from now on")
    static void oddsBehindThirty() {
        for (int l = 0; l < 2; l++) {
            RideLaws x = Check.riding(TEXT);
            x.ticks(5);
            int good = 0;
            for (int i = 0; i < 30; i++) {
                x.drawn(30, 40 + i);
                good += x.law(l, 2);
                x.undo();
            }
            Check.due("odds(" + l + ", 30, 40)", good, x.odds(l, 30, 40));
            Check.due("now(0)", 5, x.now(0));
        }
    }

    /** A law that held and fell does not hold then; one that holds first behind 30 ticks does, behind 31 it does not. */
    @Says(of = 32, value = "holds behind 30 TICKS DRAWN")
    static void oddsAtTheThirtieth() {
        int still = stillSeed();
        dueOdds("ring a 15 1;seat s a 0;", 1, still);
        dueOdds("ring a 15 1;seat s a 14;", 1, still);
        dueOdds("ring a 16 1;seat s a 1;", 0, still);
        RideLaws x = Check.riding("ring a 2 2;seat s a 0;word c;word d;rider r s;says r c;says r c;says r d;law l c c;law m c d;clash l m;");
        Check.due("odds of a law that fell", 0, x.odds(0, 1, still));
        Check.due("odds of the one by which it fell", 1, x.odds(1, 1, still));
    }

    private static void dueOdds(String seats, int want, int seed) {
        RideLaws x = Check.riding(seats + "word c;rider r s;says r c;law l c c;");
        Check.due("odds of " + seats, want, x.odds(0, 1, seed));
    }

    /** The least seed by which thirty ticks draw nothing that changes anything. */
    private static int stillSeed() {
        for (int seed = 0; seed < 1_000_000; seed++) {
            int x = seed;
            int still = 0;
            for (int i = 0; i < 30; i++) {
                x = x * 1103515245 + 12345;
                still += (x >>> 8) % 12 < 3 ? 0 : 1;
            }
            if (still == 30) {
                return seed;
            }
        }
        throw new IllegalStateException("no seed is still");
    }

    @Says(of = 32, value = "NONE: no such ones.")
    static void oddsNone() {
        RideLaws x = Check.riding(TEXT);
        int[] others = {0, -1, 31, 32, Integer.MAX_VALUE, Integer.MIN_VALUE};
        for (int n : others) {
            Check.due("odds(0, " + n + ", 1)", -1, x.odds(0, n, 1));
        }
        int[] laws = {-1, 2, 3, 8, Integer.MAX_VALUE, Integer.MIN_VALUE};
        for (int l : laws) {
            Check.due("odds(" + l + ", 1, 1)", -1, x.odds(l, 1, 1));
        }
        Check.due("odds(1, 30, 1) is one", true, x.odds(1, 30, 1) >= 0);
        Check.due("odds(1, 1, 1) is one", true, x.odds(1, 1, 1) >= 0);
        Check.due("odds(0, 1, 1) of no ride", -1, new RideLaws().odds(0, 1, 1));
    }
}
