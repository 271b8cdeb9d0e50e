/** Promises 17 to 21 and 26: comes, both, holds, aim, aimSeat, all. */
public final class ForeseeTest {
    public static void main(String[] args) {
        coming();
        meeting();
        holding();
        holdingAtTheEndOfATick();
        holdingAtTheBound();
        aiming();
        aimingAtALawThatHolds();
        leastOfLikeOnes();
        allSpeaking();
        behindTheLastTick();
        nothingIsChanged();
        Check.close();
    }

    private static void coming() {
        RideLaws x = Check.riding("ring a 30 7;ring b 6 4;ring c 2 8;seat s a 1;seat t a 0;seat u b 3;seat v b 2;seat w c 1;"
                + "seat y c 0;");
        int[] want = {17, 0, -1, 1, -1, 0};
        for (int s = 0; s < want.length; s++) {
            Check.due("comes(" + s + ")", want[s], x.comes(s));
        }
        Check.due("comes(6)", -1, x.comes(6));
        Check.due("comes(-1)", -1, x.comes(-1));
        x.ticks(1);
        Check.due("comes(0) behind a tick", 16, x.comes(0));
        Check.due("comes(1) behind a tick", 29, x.comes(1));
        Check.due("comes(5) of a ring that stays", 0, x.comes(5));
    }

    private static void meeting() {
        RideLaws x = Check.riding("ring a 30 1;ring b 29 1;ring c 4 2;seat s a 1;seat t b 0;seat u a 0;seat v b 1;seat w c 1;"
                + "seat y c 0;seat z c 2;");
        Check.due("both(0, 1)", 29, x.both(0, 1));
        Check.due("both(1, 0)", 29, x.both(1, 0));
        Check.due("both(2, 1), both are", 0, x.both(2, 1));
        Check.due("both(2, 3)", 840, x.both(2, 3));
        Check.due("both(0, 3), the latest there is", 869, x.both(0, 3));
        Check.due("both(0, 2) of one ring", -1, x.both(0, 2));
        Check.due("both(4, 0), never", -1, x.both(4, 0));
        Check.due("both(5, 6) of one ring", -1, x.both(5, 6));
        Check.due("both(5, 2), both are", 0, x.both(5, 2));
        Check.due("both(6, 2), one at odd ticks, one at even ones", -1, x.both(6, 2));
        Check.due("both(1, 1)", -1, x.both(1, 1));
        int[][] none = {{7, 0}, {0, 7}, {-1, 0}, {0, -1}, {9, 9}};
        for (int[] a : none) {
            Check.due("both(" + a[0] + ", " + a[1] + ")", -1, x.both(a[0], a[1]));
        }
    }

    private static void holding() {
        RideLaws x = Check.riding("ring a 3 1;seat s a 2;seat t a 0;word v;word w;word z;rider r s;rider q;"
                + "says r v;says r w;says r w;law l v w;law m w v;law n w w;law o z z;clash l n;clash m n;");
        int[] want = {4, 10, 7, -1};
        for (int l = 0; l < want.length; l++) {
            Check.due("holds(" + l + ")", want[l], x.holds(l));
        }
        Check.due("holds(4)", -1, x.holds(4));
        Check.due("holds(-1)", -1, x.holds(-1));
        x.ticks(4);
        Check.due("holds(0), it does", 0, x.holds(0));
        x.ticks(3);
        Check.due("holds(0), it fell", 6, x.holds(0));
        Check.due("holds(2), it does", 0, x.holds(2));
    }

    /** A law that comes to hold and falls in the same tick does not hold behind it. */
    private static void holdingAtTheEndOfATick() {
        RideLaws x = Check.riding("ring a 2 1;ring b 2 1;ring c 2 1;seat s a 1;seat t b 1;seat u c 1;word v;word w;word z;"
                + "rider r s;rider q t;rider p u;says r v;says q w;says p z;law l v w;law m w z;clash l m;");
        Check.due("holds(0)", -1, x.holds(0));
        Check.due("holds(1)", 1, x.holds(1));
        Check.due("all()", 1, x.all());
    }

    private static void holdingAtTheBound() {
        RideLaws x = Check.riding("ring a 30 1;seat s a 0;word v;word w;rider r s;says r v;says r v;says r v;says r v;says r v;"
                + "says r w;law l w v;law m v w;");
        Check.due("holds(1) in 180", 180, x.holds(1));
        Check.due("holds(0) in 210", 210, x.holds(0));
        // The third rider speaks last in every tick, so the law needs the other two in one tick.
        String others = "ring c 2 2;word u;word v;word w;";
        String riders = "seat o c 0;rider r s;rider q t;rider p o;says r v;says q w;says p u;law l v w;";
        x = Check.riding("ring a 25 1;ring b 13 1;" + others + "seat s a 0;seat t b 12;" + riders);
        Check.due("holds(0) in 300", 300, x.holds(0));
        x = Check.riding("ring a 25 1;ring b 13 1;" + others + "seat s a 24;seat t b 11;" + riders);
        Check.due("holds(0) in 301", -1, x.holds(0));
        x.ticks(1);
        Check.due("holds(0) in 300, a tick on", 300, x.holds(0));
        x.ticks(60);
        Check.due("holds(0) in 240", 240, x.holds(0));
    }

    private static void aiming() {
        RideLaws x = Check.riding("ring a 6 1;seat s a 5;seat t a 3;seat u a 0;word v;word w;word z;rider r s;rider q;rider p;"
                + "says r v;says p w;says p z;law l v w;law m w v;law n z v;");
        Check.due("aim(0, 2)", -1, x.aim(0, 2));
        Check.due("aimSeat() ahead of any", -1, x.aimSeat());
        Check.due("aim(0, 3)", 2, x.aim(0, 3));
        Check.due("aimSeat()", 1, x.aimSeat());
        Check.due("aim(1, 6)", -1, x.aim(1, 6));
        Check.due("aimSeat() stays", 1, x.aimSeat());
        Check.due("aim(1, 7)", 2, x.aim(1, 7));
        Check.due("aimSeat() of the least", 1, x.aimSeat());
        Check.due("aim(2, 12)", -1, x.aim(2, 12));
        Check.due("aim(2, 13)", 2, x.aim(2, 13));
        Check.due("aim(2, 99)", 2, x.aim(2, 99));
        Check.due("aimSeat()", 1, x.aimSeat());
        int[][] none = {{0, 0}, {0, 100}, {0, -1}, {3, 9}, {-1, 9}};
        for (int[] a : none) {
            Check.due("aim(" + a[0] + ", " + a[1] + ")", -1, x.aim(a[0], a[1]));
        }
        x.mount(1, 1);
        Check.due("aim(0, 5), a seat less", -1, x.aim(0, 5));
        Check.due("aim(0, 6), a seat less", 2, x.aim(0, 6));
        Check.due("aimSeat(), a seat less", 2, x.aimSeat());
        x.mount(2, 2);
        Check.due("aim(0, 99), no seat is free", -1, x.aim(0, 99));
        x.alight(2);
        x.alight(0);
        Check.due("aim(0, 99), one mount is not enough", -1, x.aim(0, 99));
    }

    private static void aimingAtALawThatHolds() {
        RideLaws x = Check.riding("ring a 2 1;seat s a 1;seat t a 0;word v;word w;rider r s;rider q;rider p;says r v;says r w;"
                + "says p v;law l v w;law m w v;clash l m;");
        x.ticks(3);
        Check.due("holds(0)", 0, x.holds(0));
        Check.due("aim(0, 1), it still does", 1, x.aim(0, 1));
        Check.due("aimSeat()", 1, x.aimSeat());
        Check.due("aim(1, 1)", 2, x.aim(1, 1));
        Check.due("aim(1, 2)", 1, x.aim(1, 2));
        x.learn(1, 0);
        Check.due("aim(0, 1), it falls at once", -1, x.aim(0, 1));
        Check.due("aim(0, 3), it stays down", -1, x.aim(0, 3));
    }

    private static void leastOfLikeOnes() {
        RideLaws x = Check.riding("ring a 9 1;seat s a 1;seat t a 8;seat u a 7;word v;word w;rider r;rider q;rider p;"
                + "says q v;says p v;says p v;law l v v;");
        Check.due("aim(0, 10)", 1, x.aim(0, 10));
        Check.due("aimSeat()", 1, x.aimSeat());
        Check.due("aim(0, 11)", 1, x.aim(0, 11));
        Check.due("aimSeat()", 1, x.aimSeat());
        Check.due("aim(0, 17), the least seat, though later", 1, x.aim(0, 17));
        Check.due("aimSeat()", 0, x.aimSeat());
        Check.due("aim(0, 9)", -1, x.aim(0, 9));
    }

    private static void allSpeaking() {
        RideLaws x = new RideLaws();
        Check.due("all() of no ride", 0, x.all());
        x = Check.riding("ring a 30 1;ring b 4 2;ring c 7 1;seat s a 0;seat t b 1;seat u b 2;seat v c 1;word w;"
                + "rider r s;rider q t;rider p;rider o v;says p w;");
        Check.due("all(), none has a roll", 0, x.all());
        x.learn(3, 0);
        Check.due("all(), one", 6, x.all());
        x.learn(0, 0);
        Check.due("all(), two", 30, x.all());
        x.mount(2, 2);
        Check.due("all(), three", 30, x.all());
        x.ticks(10);
        Check.due("all() since now", 20, x.all());
        x.learn(1, 0);
        Check.due("all(), one never does", -1, x.all());
        x.alight(1);
        Check.due("all(), but he alighted", 20, x.all());
    }

    private static void behindTheLastTick() {
        RideLaws x = Check.riding("ring a 4 1;seat s a 1;seat t a 0;word v;word w;rider r s;rider q;says r v;says q w;"
                + "law l w v;law m v v;law n v w;");
        for (int i = 0; i < 17; i++) {
            x.ticks(60);
        }
        Check.due("now(0)", 1000, x.now(0));
        Check.due("comes(0)", 3, x.comes(0));
        Check.due("holds(0)", -1, x.holds(0));
        x.whistle();
        Check.due("holds(1)", 7, x.holds(1));
        Check.due("aim(0, 7)", 1, x.aim(0, 7));
        Check.due("aim(2, 4)", 1, x.aim(2, 4));
        Check.due("all()", 3, x.all());
        x.learn(0, 0);
        Check.due("odds(1, 30, 1)", true, x.odds(1, 30, 1) > 0);
        Check.due("now(0) stays", 1000, x.now(0));
    }

    private static void nothingIsChanged() {
        RideLaws x = Check.riding("ring a 4 1;seat s a 1;seat t a 0;word v;word w;rider r s;rider q;says r v;says q w;"
                + "law l w v;law m v v;law n v w;");
        x.ticks(7);
        x.holds(2);
        x.aim(0, 99);
        x.all();
        x.odds(0, 30, 9);
        x.comes(0);
        x.both(0, 1);
        Check.due("now(0)", 7, x.now(0));
        Check.due("now(3)", 2, x.now(3));
        Check.due("now(4)", 2, x.now(4));
        Check.due("now(6)", 1, x.now(6));
        Check.due("seat(0, 1)", 0, x.seat(0, 1));
        Check.due("rider(1, 0)", -1, x.rider(1, 0));
        Check.due("rider(1, 1)", 1, x.rider(1, 1));
    }
}
