/** Promises 31 and 32: drawn, odds, held against acts done by hand for the same draws. */
public final class DrawTest {
    private static final String TEXT = "ring a 3 1;ring b 4 3;seat s a 0;seat t a 2;seat u b 1;word v;word w;word z;"
            + "rider r s;rider q;rider p u;says r v;says r w;says p w;says p z;law l v w;law m w v;law n z v;law o w w;clash l o;";
    private static int seed;

    public static void main(String[] args) {
        wrongOnes();
        likeActsByHand(TEXT, 40);
        likeActsByHand("word v;rider r;", 20);
        likeActsByHand("ring a 2 1;seat s a 0;rider r;", 20);
        likeActsByHand("ring a 2 1;seat s a 0;word v;", 20);
        likeActsByHand("", 20);
        whatIsKnown();
        oddsByDrawn();
        Check.close();
    }

    private static void wrongOnes() {
        RideLaws x = Check.riding(TEXT);
        int[] counts = {0, -1, 61, Integer.MIN_VALUE, Integer.MAX_VALUE};
        for (int n : counts) {
            Check.due("drawn(" + n + ", 1)", -1, x.drawn(n, 1));
        }
        int[] seeds = {0, -1, 31, Integer.MIN_VALUE, Integer.MAX_VALUE};
        for (int n : seeds) {
            Check.due("odds(0, " + n + ", 1)", -1, x.odds(0, n, 1));
        }
        Check.due("odds(4, 1, 1)", -1, x.odds(4, 1, 1));
        Check.due("odds(-1, 1, 1)", -1, x.odds(-1, 1, 1));
        Check.due("now(0)", 0, x.now(0));
        Check.due("drawn(60, 1)", 60, x.drawn(60, 1));
        Check.due("drawn(1, 1)", 1, x.drawn(1, 1));
        Check.due("now(0)", 61, x.now(0));
        for (int i = 0; i < 15; i++) {
            x.drawn(60, i);
        }
        Check.due("drawn(60, 1) at 961", 39, x.drawn(60, 1));
        Check.due("drawn(60, 1) at 1000", 0, x.drawn(60, 1));
    }

    private static int draw(int n) {
        seed = seed * 1103515245 + 12345;
        return (seed >>> 8) % n;
    }

    private static void actByHand(RideLaws x) {
        int act = draw(12);
        if (act == 0 && x.count(3) > 0 && x.count(1) > 0) {
            int r = draw(x.count(3));
            int s = draw(x.count(1));
            if (x.rider(r, 0) == -1) {
                x.mount(r, s);
            } else {
                x.alight(r);
            }
        } else if (act == 1 && x.count(3) > 0 && x.count(2) > 0) {
            int r = draw(x.count(3));
            x.learn(r, draw(x.count(2)));
        } else if (act == 2) {
            x.whistle();
        }
        x.ticks(1);
    }

    private static void likeActsByHand(String text, int rounds) {
        for (int i = 0; i < rounds; i++) {
            RideLaws x = Check.riding(text);
            RideLaws y = Check.riding(text);
            int n = 1 + i * 7 % 60;
            int first = i * 987654321;
            Check.due("drawn(" + n + ", " + first + ")", n, x.drawn(n, first));
            seed = first;
            for (int k = 0; k < n; k++) {
                actByHand(y);
            }
            dueAlike(x, y, "drawn(" + n + ", " + first + ")");
        }
    }

    private static void dueAlike(RideLaws x, RideLaws y, String when) {
        for (int what = 0; what < 8; what++) {
            Check.due("now(" + what + ") behind " + when, y.now(what), x.now(what));
        }
        for (int r = 0; r < y.count(3); r++) {
            for (int what = 0; what < 5; what++) {
                Check.due("rider(" + r + ", " + what + ") behind " + when, y.rider(r, what), x.rider(r, what));
            }
        }
        for (int l = 0; l < y.count(4); l++) {
            Check.due("law(" + l + ", 4) behind " + when, y.law(l, 4), x.law(l, 4));
        }
    }

    /** The first draws, reckoned apart: a seed below 0 is shifted without its sign. */
    private static void whatIsKnown() {
        seed = 1;
        Check.due("draw", (1103527590 >>> 8) % 12, draw(12));
        seed = -1;
        Check.due("draw of a seed below 0", (-1103502900 >>> 8) % 12, draw(12));
    }

    private static void oddsByDrawn() {
        int[] seeds = {0, 1, -7, 123456789, Integer.MAX_VALUE - 3};
        for (int first : seeds) {
            for (int l = 0; l < 4; l++) {
                RideLaws x = Check.riding(TEXT);
                x.ticks(9);
                int good = 0;
                for (int i = 0; i < 12; i++) {
                    x.drawn(30, first + i);
                    good += x.law(l, 2);
                    x.undo();
                }
                Check.due("odds(" + l + ", 12, " + first + ")", good, x.odds(l, 12, first));
                Check.due("now(0) behind odds", 9, x.now(0));
            }
        }
    }
}
