/** Terms of section 3 and promises 17 to 21 and 26: comes, both, holds, aim, aimSeat, all. */
public final class EdgeOutlookTest {
    // r says v behind 1 tick, w behind 3 (l holds), v behind 5 (m holds, l falls), w behind 7, and so on; q is off and mute.
    private static final String TURNS = "ring a 2 1;seat s a 1;seat t a 0;word v;word w;rider r s;rider q;"
            + "says r v;says r w;law l v w;law m w v;clash l m;";
    // Eight seats, which come by in 8, 7, .. 1 ticks; five mute riders are on the first five, ff is off.
    private static final String FULL = "ring x 9 1;seat a x 1;seat b x 2;seat c x 3;seat d x 4;seat e x 5;seat f x 6;seat g x 7;seat h x 8;"
            + "word v;word w;rider aa a;rider bb b;rider cc c;rider dd d;rider ee e;rider ff;says ff w;law k v v;law l w w;";
    private static final int[] FAR = {-1, -2, 8, 99, Integer.MAX_VALUE, Integer.MIN_VALUE};

    public static void main(String[] args) {
        Edges.run(EdgeOutlookTest.class);
    }

    @Says("All by what would go on, if nothing else is done")
    static void nothingIsDone() {
        RideLaws x = Check.riding(TURNS);
        x.ticks(4);
        String before = Check.all(x);
        x.comes(0);
        x.both(0, 1);
        x.holds(1);
        x.aim(0, 99);
        x.all();
        x.odds(0, 30, 1);
        x.stand();
        x.able(0);
        x.power(0, 0, 0);
        Check.dueText("all that is so", before, Check.all(x));
        Check.due("undo() of the ticks", 0, x.undo());
    }

    @Says("TICK 1000 no matter")
    static void noMatter() {
        RideLaws x = Check.riding("ring a 4 1;ring b 5 1;seat s a 1;seat t a 0;seat u b 1;word v;word w;rider r s;rider q;says r v;says q w;"
                + "law l w v;law m v v;law n v w;");
        for (int i = 0; i < 16; i++) {
            x.ticks(60);
        }
        int early = x.odds(0, 30, 7);
        x.ticks(40);
        Check.due("now(0)", 1000, x.now(0));
        Check.due("comes(0)", 3, x.comes(0));
        Check.due("both(0, 2)", 19, x.both(0, 2));
        Check.due("aim(0, 6)", -1, x.aim(0, 6));
        Check.due("aim(0, 7)", 1, x.aim(0, 7));
        Check.due("all()", 3, x.all());
        Check.due("odds(0, 30, 7), as 40 ticks ahead", early, x.odds(0, 30, 7));
        Check.due("odds(0, 30, 7) of some", true, early > 0 && early < 30);
        x.whistle();
        Check.due("holds(1)", 7, x.holds(1));
        Check.due("now(0)", 1000, x.now(0));
    }

    @Says("COMES of a SEAT: in how many TICKS (0: it is) it is at the BOX.")
    static void comesIn() {
        RideLaws x = Check.riding("ring a 30 1;ring b 30 7;ring c 2 1;seat s a 0;seat t a 1;seat u a 29;seat w b 1;seat y c 1;seat z c 0;");
        int[] want = {0, 29, 1, 17, 1, 0};
        for (int s = 0; s < want.length; s++) {
            Check.due("comes(" + s + ")", want[s], x.comes(s));
        }
        x.ticks(1);
        Check.due("comes(0), all round", 29, x.comes(0));
        Check.due("comes(2), it is", 0, x.comes(2));
    }

    @Says("BOTH of two SEATS: in how many they are there in one TICK.")
    static void bothIn() {
        RideLaws x = Check.riding("ring a 30 1;ring b 29 1;ring c 6 5;seat s a 0;seat t b 0;seat u a 1;seat w b 1;seat y c 2;seat z a 28;");
        Check.due("both(0, 1), they are", 0, x.both(0, 1));
        Check.due("both(2, 3), behind all else", 869, x.both(2, 3));
        Check.due("both(3, 2), turned round", 869, x.both(3, 2));
        Check.due("both(4, 5), in 2", 2, x.both(4, 5));
        x.ticks(1);
        Check.due("both(0, 1), all round", 869, x.both(0, 1));
        Check.due("both(2, 3)", 868, x.both(2, 3));
    }

    @Says("HOLDS of a LAW: behind how many TICKS it holds for the first time.")
    static void holdsFirst() {
        RideLaws x = Check.riding(TURNS);
        Check.due("holds(0)", 3, x.holds(0));
        Check.due("holds(1)", 5, x.holds(1));
        x.ticks(1);
        Check.due("holds(0)", 2, x.holds(0));
        x.ticks(4);
        Check.due("now(3)", 2, x.now(3));
        Check.due("holds(0), again", 2, x.holds(0));
        x.alight(0);
        Check.due("holds(0), if nothing else is done", -1, x.holds(0));
    }

    @Says("AIM at a LAW for n: the RIDER who is on no SEAT")
    static void aimOffOnes() {
        RideLaws x = Check.riding("ring a 6 1;seat s a 5;seat t a 3;seat u a 1;word v;word w;rider p;rider r s;rider o u;"
                + "says r v;says p w;says o w;law l v w;");
        Check.due("aim(0, 3)", 0, x.aim(0, 3));
        Check.due("aimSeat()", 1, x.aimSeat());
        x.mount(0, 1);
        Check.due("aim(0, 3), none is off", -1, x.aim(0, 3));
        x.alight(2);
        Check.due("aim(0, 3), another one is off", 2, x.aim(0, 3));
        Check.due("aimSeat()", 2, x.aimSeat());
    }

    @Says("and the SEAT that is free which he should MOUNT now")
    static void aimFreeSeats() {
        RideLaws x = Check.riding("ring a 6 1;seat s a 5;seat t a 4;seat u a 2;word v;word w;rider p;rider r s;rider o t;"
                + "says r v;says p w;law l v w;");
        Check.due("aim(0, 3), the sooner seat is not free", -1, x.aim(0, 3));
        Check.due("aim(0, 4)", 0, x.aim(0, 4));
        Check.due("aimSeat()", 2, x.aimSeat());
        x.alight(2);
        Check.due("aim(0, 2), it is free", 0, x.aim(0, 2));
        Check.due("aimSeat()", 1, x.aimSeat());
        x.mount(2, 2);
        x.mount(0, 1);
        x.alight(1);
        x.mount(1, 0);
        Check.due("aim(0, 99), no seat and no rider", -1, x.aim(0, 99));
    }

    @Says("so that it holds behind 1, 2, .. or n TICKS")
    static void aimInTime() {
        RideLaws x = Check.riding(FULL);
        Check.due("aim(1, 9)", -1, x.aim(1, 9));
        Check.due("aimSeat() ahead of any", -1, x.aimSeat());
        Check.due("aim(1, 10)", 5, x.aim(1, 10));
        Check.due("aimSeat(), the last", 7, x.aimSeat());
        Check.due("aim(1, 11)", 5, x.aim(1, 11));
        Check.due("aimSeat()", 6, x.aimSeat());
        Check.due("aim(1, 99)", 5, x.aim(1, 99));
        Check.due("aimSeat()", 5, x.aimSeat());
        Check.due("aim(0, 99), never", -1, x.aim(0, 99));
        x = Check.riding("ring a 2 1;seat s a 1;seat t a 0;word v;word w;rider r s;rider q;says r v;says q w;law l w v;");
        x.ticks(1);
        Check.due("aim(0, 1)", -1, x.aim(0, 1));
        Check.due("aim(0, 2)", 1, x.aim(0, 2));
        x.alight(0);
        x.learn(1, 0);
        Check.due("aim(0, 3), one who says both", 1, x.aim(0, 3));
        Check.due("aimSeat()", 1, x.aimSeat());
    }

    @Says("it may fall again")
    static void aimFallsAgain() {
        RideLaws x = Check.riding(TURNS);
        Check.due("aim(0, 2)", -1, x.aim(0, 2));
        Check.due("aim(0, 3)", 1, x.aim(0, 3));
        Check.due("aim(0, 5), though it fell", 1, x.aim(0, 5));
        Check.due("aim(0, 6), though it fell", 1, x.aim(0, 6));
        Check.due("aim(1, 4)", -1, x.aim(1, 4));
        Check.due("aim(1, 5)", 1, x.aim(1, 5));
        Check.due("aim(1, 8), though it fell", 1, x.aim(1, 8));
    }

    @Says("a LAW that holds now, too: if it still does then")
    static void aimHoldsNow() {
        RideLaws x = Check.riding(TURNS);
        x.ticks(3);
        Check.due("holds(0)", 0, x.holds(0));
        Check.due("aim(0, 1), it still does", 1, x.aim(0, 1));
        x.ticks(1);
        Check.due("holds(0)", 0, x.holds(0));
        Check.due("aim(0, 1), it falls", -1, x.aim(0, 1));
        Check.due("aim(0, 2), it is down", -1, x.aim(0, 2));
        Check.due("aim(0, 3), it does again", 1, x.aim(0, 3));
    }

    @Says("of like ones the least RIDER, then SEAT.")
    static void aimLeast() {
        RideLaws x = Check.riding("ring a 9 1;seat s a 1;seat t a 8;seat u a 7;word v;rider o;rider q;rider p;says q v;says p v;law l v v;");
        Check.due("aim(0, 9)", -1, x.aim(0, 9));
        Check.due("aim(0, 10)", 1, x.aim(0, 10));
        Check.due("aimSeat()", 1, x.aimSeat());
        Check.due("aim(0, 11)", 1, x.aim(0, 11));
        Check.due("aimSeat()", 1, x.aimSeat());
        Check.due("aim(0, 17), the least seat, though the last to come", 1, x.aim(0, 17));
        Check.due("aimSeat()", 0, x.aimSeat());
        x.learn(0, 0);
        Check.due("aim(0, 10), the least rider", 0, x.aim(0, 10));
        Check.due("aimSeat()", 1, x.aimSeat());
    }

    @Says("ALL: behind how many TICKS each RIDER who is on a SEAT now and has a ROLL has said a word since now.")
    static void allSpoke() {
        RideLaws x = Check.riding("ring a 30 1;ring b 7 1;seat s a 0;seat t b 1;seat u b 0;word w;rider r s;rider q t;rider p;rider o u;"
                + "says r w;says q w;says p w;");
        Check.due("all(), who is at the box now comes again", 30, x.all());
        x.ticks(10);
        Check.due("all() since now", 20, x.all());
        x.alight(0);
        Check.due("all(), he is off", 3, x.all());
        x.alight(1);
        Check.due("all(), both are off, one is mute", 0, x.all());
        x.learn(3, 0);
        Check.due("all(), he has a roll", 4, x.all());
    }

    @Says(of = 17, value = "COMES of a SEAT: TICKS")
    static void comes() {
        RideLaws x = Check.riding(FULL);
        for (int s = 0; s < 8; s++) {
            Check.due("comes(" + s + ")", 8 - s, x.comes(s));
        }
    }

    @Says(of = 17, value = "NONE: never, no such one.")
    static void comesNever() {
        RideLaws x = Check.riding("ring a 30 6;ring b 2 2;ring c 9 9;seat s a 1;seat t a 6;seat u b 1;seat w b 0;seat y c 8;seat z a 29;");
        int[] want = {-1, 4, -1, 0, -1, -1};
        for (int s = 0; s < want.length; s++) {
            Check.due("comes(" + s + ")", want[s], x.comes(s));
        }
        Check.due("comes(6)", -1, x.comes(6));
        for (int far : FAR) {
            Check.due("comes(" + far + ")", -1, x.comes(far));
        }
        Check.due("comes(0) of no ride", -1, new RideLaws().comes(0));
    }

    @Says(of = 18, value = "BOTH of two SEATS: TICKS")
    static void both() {
        RideLaws x = Check.riding("ring a 6 1;ring b 8 3;seat s a 4;seat t a 0;seat u b 2;");
        Check.due("both(0, 2)", 2, x.both(0, 2));
        Check.due("both(1, 2)", 18, x.both(1, 2));
        Check.due("both(2, 1)", 18, x.both(2, 1));
    }

    @Says(of = 18, value = "NONE: never, alike, no such ones.")
    static void bothNever() {
        RideLaws x = Check.riding("ring a 4 1;ring b 4 1;ring c 6 3;seat s a 0;seat t a 1;seat u b 0;seat w b 2;seat y c 1;seat z c 0;");
        Check.due("both(0, 1) of one ring", -1, x.both(0, 1));
        Check.due("both(0, 3), never in one tick", -1, x.both(0, 3));
        Check.due("both(0, 4), one never comes", -1, x.both(0, 4));
        Check.due("both(4, 5)", -1, x.both(4, 5));
        Check.due("both(0, 2), they are", 0, x.both(0, 2));
        for (int s = 0; s < 6; s++) {
            Check.due("both(" + s + ", " + s + "), alike", -1, x.both(s, s));
        }
        for (int far : FAR) {
            Check.due("both(0, " + far + ")", -1, x.both(0, far));
            Check.due("both(" + far + ", 0)", -1, x.both(far, 0));
            Check.due("both(" + far + ", " + far + ")", -1, x.both(far, far));
        }
        Check.due("both(0, 6)", -1, x.both(0, 6));
        Check.due("both(6, 0)", -1, x.both(6, 0));
    }

    @Says(of = 19, value = "HOLDS of a LAW: TICKS (0: it does)")
    static void holds() {
        RideLaws x = Check.riding(TURNS);
        x.ticks(2);
        Check.due("holds(0)", 1, x.holds(0));
        x.ticks(1);
        Check.due("holds(0), it does", 0, x.holds(0));
        Check.due("holds(1)", 2, x.holds(1));
        x.ticks(1);
        Check.due("holds(0), it still does", 0, x.holds(0));
    }

    /** The third rider speaks last in every tick, so the law needs the other two in one tick. */
    @Says(of = 19, value = "NONE: not in 300, no such one.")
    static void holdsIn300() {
        String rings = "ring a 25 1;ring b 13 1;ring c 2 2;word u;word v;word w;";
        String riders = "seat o c 0;rider r s;rider q t;rider p o;says r v;says q w;says p u;law l v w;law m w w;";
        RideLaws x = Check.riding(rings + "seat s a 0;seat t b 12;" + riders);
        Check.due("holds(0) in 300", 300, x.holds(0));
        x = Check.riding(rings + "seat s a 24;seat t b 11;" + riders);
        Check.due("holds(0) in 301", -1, x.holds(0));
        x.ticks(1);
        Check.due("holds(0) in 300, a tick on", 300, x.holds(0));
        Check.due("holds(1), never", -1, x.holds(1));
        Check.due("holds(2)", -1, x.holds(2));
        for (int far : FAR) {
            Check.due("holds(" + far + ")", -1, x.holds(far));
        }
        Check.due("holds(0) of no ride", -1, new RideLaws().holds(0));
    }

    @Says(of = 20, value = "AIM at a LAW for n (1 to 99): the RIDER")
    static void aim() {
        RideLaws x = Check.riding(TURNS);
        x.ticks(3);
        Check.due("aim(0, 1)", 1, x.aim(0, 1));
        Check.due("aim(0, 99)", 1, x.aim(0, 99));
        RideLaws y = Check.riding("ring a 30 1;seat s a 0;word v;word w;rider r;says r v;says r v;says r w;law l v w;law m w v;");
        Check.due("aim(0, 89)", -1, y.aim(0, 89));
        Check.due("aim(0, 90)", 0, y.aim(0, 90));
        Check.due("aim(1, 99)", -1, y.aim(1, 99));
    }

    @Says(of = 20, value = "NONE: none, no such ones.")
    static void aimNone() {
        RideLaws x = Check.riding(TURNS);
        x.ticks(3);
        int[] others = {0, -1, 100, 101, Integer.MAX_VALUE, Integer.MIN_VALUE};
        for (int n : others) {
            Check.due("aim(0, " + n + ")", -1, x.aim(0, n));
        }
        for (int far : FAR) {
            Check.due("aim(" + far + ", 9)", -1, x.aim(far, 9));
        }
        Check.due("aim(2, 9)", -1, x.aim(2, 9));
        Check.due("aim(0, 1) of no ride", -1, new RideLaws().aim(0, 1));
        x.mount(1, 1);
        Check.due("aim(0, 9), none is off", -1, x.aim(0, 9));
        Check.due("aimSeat() ahead of any", -1, x.aimSeat());
    }

    @Says(of = 21, value = "The SEAT by the latest aim() that was not NONE")
    static void aimSeat() {
        RideLaws x = Check.riding(FULL);
        x.aim(1, 10);
        Check.due("aimSeat()", 7, x.aimSeat());
        x.aim(1, 9);
        x.aim(1, 0);
        x.aim(9, 9);
        Check.due("aimSeat() behind aims of NONE", 7, x.aimSeat());
        x.aim(1, 11);
        Check.due("aimSeat() of the latest", 6, x.aimSeat());
        x.mount(5, 7);
        x.ride();
        Check.due("aimSeat() of another ride", 6, x.aimSeat());
    }

    @Says(of = 21, value = "NONE ahead of any.")
    static void aimSeatAhead() {
        RideLaws x = new RideLaws();
        Check.due("aimSeat() of a new object", -1, x.aimSeat());
        x.aim(0, 1);
        Check.ride(x, FULL);
        x.aim(0, 99);
        Check.due("aimSeat() behind aims of NONE", -1, x.aimSeat());
    }

    @Says(of = 26, value = "ALL: TICKS (0: there are no such RIDERS)")
    static void all() {
        Check.due("all() of no ride", 0, new RideLaws().all());
        RideLaws x = Check.riding(FULL);
        Check.due("all(), the ones on seats are mute, the other is off", 0, x.all());
        x.learn(0, 0);
        Check.due("all(), one", 8, x.all());
        x.mount(5, 7);
        Check.due("all(), two", 8, x.all());
        x.alight(0);
        Check.due("all(), the last one", 1, x.all());
        x.ticks(1);
        Check.due("all() behind his word", 9, x.all());
    }

    @Says(of = 26, value = "NONE: not in 300.")
    static void allNever() {
        RideLaws x = Check.riding("ring a 4 2;ring b 4 1;seat s a 1;seat t b 1;word v;rider r s;rider q t;says r v;says q v;");
        Check.due("all(), one never comes", -1, x.all());
        x.alight(0);
        Check.due("all(), he is off", 3, x.all());
    }
}
