/** Promises 11 to 16: mount, alight, learn, whistle, ticks, undo. */
public final class ActTest {
    private static final String TEXT = "ring a 2 1;seat s a 1;seat t a 0;word v;word w;rider r s;rider q;"
            + "says r v;says r w;law l v w;law m w v;";

    public static void main(String[] args) {
        mounting();
        alighting();
        learning();
        whistling();
        ticking();
        lawsHoldAndFall();
        sayingInOrderOfSeats();
        lastTick();
        undoing();
        undoingAtMostEight();
        whatCannotBeUndone();
        Check.close();
    }

    private static void mounting() {
        RideLaws x = Check.riding(TEXT);
        Check.due("mount(0, 1), on one", 1, x.mount(0, 1));
        Check.due("mount(0, 0), on it", 1, x.mount(0, 0));
        Check.due("mount(1, 0), somebody is there", 2, x.mount(1, 0));
        Check.due("mount(1, 1)", 0, x.mount(1, 1));
        Check.due("rider(1, 0)", 1, x.rider(1, 0));
        Check.due("seat(1, 2)", 1, x.seat(1, 2));
        Check.due("mount(1, 0), both reasons", 1, x.mount(1, 0));
        int[][] none = {{2, 0}, {-1, 0}, {0, 2}, {0, -1}, {5, 9}};
        for (int[] a : none) {
            Check.due("mount(" + a[0] + ", " + a[1] + ")", -1, x.mount(a[0], a[1]));
        }
    }

    private static void alighting() {
        RideLaws x = Check.riding(TEXT);
        Check.due("alight(1), on none", 1, x.alight(1));
        Check.due("alight(2)", -1, x.alight(2));
        Check.due("alight(-1)", -1, x.alight(-1));
        x.ticks(1);
        Check.due("alight(0)", 0, x.alight(0));
        Check.due("alight(0) again", 1, x.alight(0));
        Check.due("rider(0, 0)", -1, x.rider(0, 0));
        Check.due("seat(0, 2)", -1, x.seat(0, 2));
        x.ticks(2);
        Check.due("he says nothing then", 1, x.now(4));
        Check.due("mount(0, 1)", 0, x.mount(0, 1));
        Check.due("he goes on where he was", 1, x.rider(0, 2));
        x.ticks(1);
        Check.due("and says it", 1, x.now(1));
        Check.due("the law holds", 1, x.now(3));
    }

    private static void learning() {
        RideLaws x = Check.riding(TEXT);
        for (int i = 0; i < 6; i++) {
            Check.due("learn(1, ..) " + i, 0, x.learn(1, i % 2));
            Check.due("rider(1, 1)", i + 1, x.rider(1, 1));
            Check.due("roll(1, " + i + ")", i % 2, x.roll(1, i));
        }
        Check.due("a seventh", 1, x.learn(1, 0));
        Check.due("rider(1, 1) stays", 6, x.rider(1, 1));
        int[][] none = {{2, 0}, {-1, 0}, {0, 2}, {0, -1}};
        for (int[] a : none) {
            Check.due("learn(" + a[0] + ", " + a[1] + ")", -1, x.learn(a[0], a[1]));
        }
        x.ticks(3);
        Check.due("said the last word: the first is next", 0, x.rider(0, 2));
        Check.due("learn behind the last word", 0, x.learn(0, 1));
        Check.due("the first is next all the same", 0, x.rider(0, 2));
        x.ticks(2);
        Check.due("learn in the midst", 0, x.learn(0, 0));
        Check.due("the second is next", 1, x.rider(0, 2));
        x.ticks(2);
        Check.due("then the one that was learned", 1, x.rider(0, 2));
        x.ticks(2);
        Check.due("then the other one", 0, x.rider(0, 2));
        Check.due("four words known of", 4, x.rider(0, 1));
    }

    private static void whistling() {
        RideLaws x = Check.riding(TEXT);
        Check.due("whistle() at first", 1, x.whistle());
        Check.due("now(7)", 0, x.now(7));
        x.ticks(1);
        Check.due("whistle() with a latest word", 0, x.whistle());
        Check.due("rider(0, 2) anew", 0, x.rider(0, 2));
        Check.due("whistle() again", 1, x.whistle());
        x.ticks(2);
        Check.due("no law of a word ahead of the whistle", 0, x.now(3));
        x.ticks(2);
        Check.due("a law holds", 1, x.now(3));
        x.alight(0);
        Check.due("whistle() with a law", 0, x.whistle());
        Check.due("now(3)", 0, x.now(3));
        Check.due("now(7) of two", 2, x.now(7));
        Check.due("said so far stays", 3, x.rider(0, 3));
        Check.due("who is off begins anew, too", 0, x.rider(0, 2));
    }

    private static void ticking() {
        RideLaws x = Check.riding(TEXT);
        int[] none = {0, -1, 61, Integer.MIN_VALUE, Integer.MAX_VALUE};
        for (int n : none) {
            Check.due("ticks(" + n + ")", -1, x.ticks(n));
        }
        Check.due("now(0) stays", 0, x.now(0));
        Check.due("ticks(1)", 1, x.ticks(1));
        Check.due("ticks(60)", 60, x.ticks(60));
        Check.due("now(0)", 61, x.now(0));
        Check.due("rider(0, 3)", 31, x.rider(0, 3));
        Check.due("now(4)", 31, x.now(4));
        Check.due("law(0, 4)", 15, x.law(0, 4));
        Check.due("law(1, 4)", 15, x.law(1, 4));
        Check.due("laws without a clash stay", 3, x.now(3));
    }

    private static void lawsHoldAndFall() {
        RideLaws x = Check.riding("ring a 2 1;seat s a 1;word u;word v;word w;rider r s;says r u;says r v;says r v;says r w;"
                + "law k u v;law l v v;law m v w;law n w u;clash k l;clash n l;clash n k;");
        int[] want = {0, 1, 2, 6, 12, 5, 6, 6, 12};
        for (int i = 0; i < want.length; i++) {
            x.ticks(i == 0 ? 1 : 2);
            Check.due("now(3) behind word " + (i + 1), want[i], x.now(3));
        }
    }

    /** Two seats of two rings come by in one tick: the seat with the lower number speaks first. */
    private static void sayingInOrderOfSeats() {
        RideLaws x = Check.riding("ring a 2 1;ring b 3 2;seat s b 1;seat t a 1;word v;word w;rider r t;rider q s;"
                + "says r v;says q w;law l w v;law m v w;");
        x.ticks(1);
        Check.due("now(1)", 0, x.now(1));
        Check.due("now(2)", 0, x.now(2));
        Check.due("now(3)", 1, x.now(3));
        Check.due("now(4)", 2, x.now(4));
        x = Check.riding("ring a 2 1;ring b 3 2;ring c 5 1;seat s b 1;seat t a 1;seat u c 4;word v;word w;word z;"
                + "rider r u;rider q s;rider p t;says r v;says q w;says p z;law l w z;law m z v;clash l m;");
        x.ticks(1);
        Check.due("a law that came to hold and fell in one tick", 2, x.now(3));
        Check.due("law(0, 4)", 1, x.law(0, 4));
        Check.due("law(1, 4)", 1, x.law(1, 4));
    }

    private static void lastTick() {
        RideLaws x = Check.riding(TEXT);
        for (int i = 0; i < 16; i++) {
            Check.due("ticks(60)", 60, x.ticks(60));
        }
        Check.due("ticks(60) at 960", 40, x.ticks(60));
        Check.due("now(0)", 1000, x.now(0));
        Check.due("now(4)", 500, x.now(4));
        Check.due("ticks(1) at 1000", 0, x.ticks(1));
        Check.due("drawn(5, 5) at 1000", 0, x.drawn(5, 5));
        Check.due("ticks(0) at 1000", -1, x.ticks(0));
        Check.due("alight(0) at 1000", 0, x.alight(0));
        Check.due("mount(0, 0) at 1000", 0, x.mount(0, 0));
        Check.due("undo()", 7, x.undo());
        Check.due("undo()", 6, x.undo());
        Check.due("undo() of 40", 5, x.undo());
        Check.due("now(0) behind it", 960, x.now(0));
        Check.due("ticks(39)", 39, x.ticks(39));
        Check.due("ticks(2) at 999", 1, x.ticks(2));
    }

    private static void undoing() {
        RideLaws x = Check.riding(TEXT);
        Check.due("undo() of nothing", -1, x.undo());
        x.mount(1, 1);
        x.alight(0);
        x.learn(1, 1);
        x.ticks(2);
        x.whistle();
        x.drawn(30, 77);
        Check.book(x, "tick 5;", 1);
        Check.due("undo() of a book", 6, x.undo());
        Check.due("now(0)", 32, x.now(0));
        Check.due("undo() of drawn", 5, x.undo());
        Check.due("now(0)", 2, x.now(0));
        Check.due("now(7)", 1, x.now(7));
        Check.due("undo() of the whistle", 4, x.undo());
        Check.due("now(7)", 0, x.now(7));
        Check.due("now(1)", 1, x.now(1));
        Check.due("now(2)", 1, x.now(2));
        Check.due("undo() of ticks", 3, x.undo());
        Check.due("now(0)", 0, x.now(0));
        Check.due("now(1)", -1, x.now(1));
        Check.due("now(4)", 0, x.now(4));
        Check.due("undo() of learn", 2, x.undo());
        Check.due("rider(1, 1)", 0, x.rider(1, 1));
        Check.due("undo() of alight", 1, x.undo());
        Check.due("rider(0, 0)", 0, x.rider(0, 0));
        Check.due("seat(0, 2)", 0, x.seat(0, 2));
        Check.due("undo() of mount", 0, x.undo());
        Check.due("rider(1, 0)", -1, x.rider(1, 0));
        Check.due("seat(1, 2)", -1, x.seat(1, 2));
        Check.due("undo() of nothing more", -1, x.undo());
    }

    private static void undoingAtMostEight() {
        RideLaws x = Check.riding(TEXT);
        for (int i = 0; i < 20; i++) {
            x.ticks(1);
        }
        for (int left = 7; left >= 0; left--) {
            Check.due("undo()", left, x.undo());
            Check.due("now(0)", 12 + left, x.now(0));
        }
        Check.due("undo() of a ninth", -1, x.undo());
        Check.due("now(0) stays", 12, x.now(0));
        x.ticks(3);
        Check.due("undo() behind others", 0, x.undo());
        Check.due("now(0) behind others", 12, x.now(0));
    }

    /** What was not done, and what is no act, is not undone. */
    private static void whatCannotBeUndone() {
        RideLaws x = Check.riding(TEXT);
        x.mount(0, 0);
        x.mount(9, 9);
        x.alight(1);
        x.learn(5, 0);
        x.whistle();
        x.ticks(0);
        x.drawn(0, 1);
        Check.book(x, "tick 9;", 0);
        Check.book(x, "r mounts s;tick 9;", 1);
        Check.book(x, "", 1);
        Check.book(x, "tick 99;", 1);
        Check.sentence(x, "up");
        x.aim(0, 9);
        x.holds(1);
        x.odds(0, 3, 3);
        x.stand();
        x.image(0);
        Check.due("undo() of nothing done", -1, x.undo());
        Check.due("said(-1) stays", 1, x.said(-1));
        x.ticks(1);
        Check.sentence(x, "not up");
        Check.due("undo()", 0, x.undo());
        Check.due("the sentence stays", 1, x.said(0));
        x.ticks(2);
        Check.due("restore(0)", true, x.restore(0));
        Check.due("undo() behind restore", -1, x.undo());
    }
}
