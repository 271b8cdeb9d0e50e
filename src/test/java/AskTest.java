/** Promises 6 to 10: rider, roll, seat, law, now. */
public final class AskTest {
    private static final String TEXT = "ring a 5 2;ring b 3 1;seat s a 1;seat t b 0;seat u b 2;word v;word w;word x;"
            + "rider r s;rider q;rider p u;says r w;says r v;says r w;says p x;"
            + "law l w v;law m v w;law n w x;clash m l;clash n m;";

    public static void main(String[] args) {
        riders();
        rolls();
        seats();
        laws();
        nows();
        Check.close();
    }

    private static void riders() {
        RideLaws x = Check.riding(TEXT);
        int[][] want = {{0, 3, 1, 0, 3}, {-1, 0, -1, 0, 0}, {2, 1, 2, 0, 4}};
        for (int r = 0; r < 3; r++) {
            for (int what = 0; what < 5; what++) {
                Check.due("rider(" + r + ", " + what + ")", want[r][what], x.rider(r, what));
            }
        }
        Check.due("ticks(2)", 2, x.ticks(2));
        Check.due("rider(0, 3) behind 2 ticks", 1, x.rider(0, 3));
        Check.due("rider(0, 2) behind 2 ticks", 0, x.rider(0, 2));
        Check.due("rider(2, 3) behind 2 ticks", 1, x.rider(2, 3));
        Check.due("rider(2, 2) behind 2 ticks", 2, x.rider(2, 2));
        Check.dueThrow("rider(3, 0)", () -> x.rider(3, 0));
        Check.dueThrow("rider(-1, 0)", () -> x.rider(-1, 0));
        Check.dueThrow("rider(0, 5)", () -> x.rider(0, 5));
        Check.dueThrow("rider(0, -1)", () -> x.rider(0, -1));
        Check.dueThrow("rider(max, 0)", () -> x.rider(Integer.MAX_VALUE, 0));
        Check.dueThrow("rider(min, min)", () -> x.rider(Integer.MIN_VALUE, Integer.MIN_VALUE));
        Check.dueThrow("rider(0, 0) of no ride", () -> new RideLaws().rider(0, 0));
    }

    private static void rolls() {
        RideLaws x = Check.riding(TEXT);
        int[] want = {1, 0, 1, -1, -1, -1, -1};
        for (int k = 0; k < want.length; k++) {
            Check.due("roll(0, " + k + ")", want[k], x.roll(0, k));
        }
        Check.due("roll(0, -1)", -1, x.roll(0, -1));
        Check.due("roll(1, 0)", -1, x.roll(1, 0));
        Check.due("roll(2, 0)", 2, x.roll(2, 0));
        Check.due("roll(3, 0)", -1, x.roll(3, 0));
        Check.due("roll(-1, 0)", -1, x.roll(-1, 0));
        Check.due("roll(max, max)", -1, x.roll(Integer.MAX_VALUE, Integer.MAX_VALUE));
        x.learn(1, 2);
        Check.due("roll(1, 0) learned", 2, x.roll(1, 0));
    }

    private static void seats() {
        RideLaws x = Check.riding(TEXT);
        int[][] want = {{0, 1, 0, -1}, {1, 0, -1, -1}, {1, 2, 2, -1}};
        for (int s = 0; s < 3; s++) {
            for (int what = 0; what < 4; what++) {
                Check.due("seat(" + s + ", " + what + ")", want[s][what], x.seat(s, what));
            }
        }
        Check.due("seat(3, 0)", -1, x.seat(3, 0));
        Check.due("seat(-1, 0)", -1, x.seat(-1, 0));
        Check.due("seat(0, -1)", -1, x.seat(0, -1));
        int[][] at = {{3, 1, 0}, {0, 2, 1}, {2, 0, 2}, {4, 1, 0}, {1, 2, 1}};
        for (int i = 0; i < at.length; i++) {
            x.ticks(1);
            for (int s = 0; s < 3; s++) {
                Check.due("seat(" + s + ", 1) behind tick " + (i + 1), at[i][s], x.seat(s, 1));
            }
        }
        x = Check.riding("ring a 2 9;ring b 3 9;seat s a 0;seat t b 1;");
        x.ticks(1);
        Check.due("seat(0, 1), more than all round", 1, x.seat(0, 1));
        Check.due("seat(1, 1), just all round", 1, x.seat(1, 1));
    }

    private static void laws() {
        RideLaws x = Check.riding(TEXT);
        int[][] want = {{1, 0, 0, 2, 0}, {0, 1, 0, 5, 0}, {1, 2, 0, 2, 0}};
        for (int l = 0; l < 3; l++) {
            for (int what = 0; what < 5; what++) {
                Check.due("law(" + l + ", " + what + ")", want[l][what], x.law(l, what));
            }
        }
        Check.due("law(3, 0)", -1, x.law(3, 0));
        Check.due("law(-1, 0)", -1, x.law(-1, 0));
        Check.due("law(0, -1)", -1, x.law(0, -1));
        Check.due("law(0, 5)", -1, x.law(0, 5));
    }

    /** One ring of two steps: rider r says v, w, v, w .. and laws hold and fall. */
    private static void nows() {
        RideLaws x = Check.riding("ring a 2 1;ring b 3 1;seat s a 1;seat t a 0;seat u b 0;word v;word w;rider q;rider r s;"
                + "says r v;says r w;law l v w;law m w v;law n v v;clash l m;");
        Check.due("now(5)", 6, x.now(5));
        Check.due("now(6)", 1, x.now(6));
        dueNow(x, 1, 1, 0, 1, 0, 1);
        dueNow(x, 1, 2, 0, 1, 0, 1);
        dueNow(x, 1, 3, 1, 1, 1, 2);
        Check.due("law(0, 2)", 1, x.law(0, 2));
        dueNow(x, 2, 5, 0, 1, 2, 3);
        Check.due("law(0, 2) fell", 0, x.law(0, 2));
        Check.due("law(1, 2)", 1, x.law(1, 2));
        x.ticks(6);
        Check.due("law(0, 4)", 3, x.law(0, 4));
        Check.due("law(1, 4)", 2, x.law(1, 4));
        Check.due("law(2, 4)", 0, x.law(2, 4));
        x.alight(1);
        Check.due("now(2) of one who alighted", 1, x.now(2));
        Check.due("now(6) behind alighting", 0, x.now(6));
        Check.due("whistle()", 0, x.whistle());
        Check.due("now(1) behind the whistle", -1, x.now(1));
        Check.due("now(2) behind the whistle", -1, x.now(2));
        Check.due("now(3) behind the whistle", 0, x.now(3));
        Check.due("now(7) behind the whistle", 1, x.now(7));
        Check.due("law(0, 4) behind the whistle", 3, x.law(0, 4));
        Check.due("now(4) behind the whistle", 6, x.now(4));
        Check.due("now(8)", -1, x.now(8));
        Check.due("now(-1)", -1, x.now(-1));
        Check.due("now(max)", -1, x.now(Integer.MAX_VALUE));
    }

    private static void dueNow(RideLaws x, int ticks, int tick, int latest, int by, int holding, int spoken) {
        x.ticks(ticks);
        String when = " at tick " + tick;
        Check.due("now(0)" + when, tick, x.now(0));
        Check.due("now(1)" + when, latest, x.now(1));
        Check.due("now(2)" + when, by, x.now(2));
        Check.due("now(3)" + when, holding, x.now(3));
        Check.due("now(4)" + when, spoken, x.now(4));
    }
}
