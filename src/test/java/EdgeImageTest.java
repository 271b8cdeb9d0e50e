/** Promises 37 and 38: image, restore. */
public final class EdgeImageTest {
    private static final String TEXT = "ring a 2 1;seat s a 1;seat t a 0;word v;word w;rider r s;rider q;"
            + "says r v;says r w;law l v w;law m w v;clash l m;";
    private static final String OTHER = "ring k 30 9;ring j 5 2;seat x k 7;seat y j 0;seat z j 1;word c;word d;word e;rider o y;rider n;rider i z;"
            + "says o e;says i c;says i c;law g e c;law h c c;";
    private static final int[] FAR = {-1, -2, 2, 3, Integer.MAX_VALUE, Integer.MIN_VALUE};

    public static void main(String[] args) {
        Edges.run(EdgeImageTest.class);
    }

    private static RideLaws running() {
        RideLaws x = Check.riding(TEXT);
        Check.sentence(x, "up and not mute");
        x.ticks(3);
        x.whistle();
        x.ticks(6);
        x.mount(1, 1);
        x.learn(1, 1);
        return x;
    }

    @Says(of = 37, value = "RIDE, all that is so and the SENTENCE are kept in place k (0, 1): true")
    static void image() {
        for (int k = 0; k < 2; k++) {
            RideLaws x = running();
            String before = Check.all(x);
            Check.due("image(" + k + ")", true, x.image(k));
            Check.due("undo() is left", 4, x.undo());
            Check.ride(x, OTHER);
            Check.sentence(x, "mute");
            x.drawn(60, 5);
            Check.due("restore(" + k + ")", true, x.restore(k));
            Check.dueText("all that was so", before, Check.all(x));
            Check.due("said(0)", 0, x.said(0));
        }
    }

    /** What is not asked for at once is kept, too: how it goes on is the same. */
    @Says(of = 37, value = "all that is so")
    static void imageGoesOn() {
        RideLaws x = running();
        RideLaws y = running();
        x.image(1);
        Check.ride(x, OTHER);
        x.ticks(50);
        x.restore(1);
        x.ticks(9);
        y.ticks(9);
        Check.dueText("all behind more ticks", Check.all(y), Check.all(x));
        Check.due("comes(0)", y.comes(0), x.comes(0));
        Check.due("holds(1)", y.holds(1), x.holds(1));
        Check.dueText("line(1)", Check.line(y, 1), Check.line(x, 1));
    }

    /** A place is kept anew by the latest image, and each place for itself. */
    @Says(of = 37, value = "are kept in place k (0, 1)")
    static void twoPlaces() {
        RideLaws x = Check.riding(TEXT);
        x.image(0);
        x.ticks(5);
        x.image(1);
        x.ticks(5);
        x.restore(0);
        Check.due("now(0) of place 0", 0, x.now(0));
        x.restore(1);
        Check.due("now(0) of place 1", 5, x.now(0));
        x.ticks(1);
        x.image(0);
        x.restore(1);
        Check.due("now(0) of place 1 still", 5, x.now(0));
        x.restore(0);
        Check.due("now(0) of place 0 anew", 6, x.now(0));
        x.ticks(9);
        x.restore(0);
        Check.due("now(0) of place 0 again", 6, x.now(0));
    }

    @Says(of = 37, value = "the SENTENCE")
    static void sentenceIsKept() {
        RideLaws x = Check.riding(TEXT);
        x.image(0);
        Check.sentence(x, "up");
        x.image(1);
        Check.sentence(x, "number<2 and (roll=0 or said=0)");
        x.restore(0);
        Check.due("said(-1), there was none", -1, x.said(-1));
        x.restore(1);
        Check.due("said(-1)", 1, x.said(-1));
        x.alight(0);
        Check.due("said(-1)", 0, x.said(-1));
    }

    @Says(of = 37, value = "false: no such one.")
    static void imageNone() {
        RideLaws x = running();
        for (int far : FAR) {
            Check.due("image(" + far + ")", false, x.image(far));
        }
        Check.due("restore(0), nothing was kept", false, x.restore(0));
        Check.due("restore(1), nothing was kept", false, x.restore(1));
    }

    @Says(of = 38, value = "They are as kept in place k")
    static void restore() {
        RideLaws x = new RideLaws();
        Check.due("image(0) of no ride", true, x.image(0));
        Check.ride(x, TEXT);
        x.ticks(7);
        Check.due("restore(0)", true, x.restore(0));
        Check.due("count(0)", 0, x.count(0));
        Check.due("count(3)", 0, x.count(3));
        Check.due("now(0)", 0, x.now(0));
        Check.due("restore(0) again", true, x.restore(0));
        Check.due("a name of the ride that was", -2, Check.book(x, "r alights;", 0));
    }

    @Says(of = 38, value = "the tape")
    static void tapeStays() {
        RideLaws x = Check.riding(TEXT);
        x.image(0);
        Check.tape(x, "tick 5;");
        x.restore(0);
        Check.due("count(5)", 7, x.count(5));
        Check.due("book(1)", -1, x.book(1));
        Check.due("now(0)", 5, x.now(0));
        Check.tape(x, "tick 9;");
        x.image(0);
        x.end(0);
        x.restore(0);
        Check.due("count(5), the tape is not kept", 0, x.count(5));
    }

    @Says(of = 38, value = "and what other calls told last, stays")
    static void toldLastStays() {
        RideLaws x = Check.riding(TEXT);
        x.image(0);
        x.learn(1, 1);
        Check.book(x, "tick 5;q alights;", 0);
        Check.due("aim(0, 2)", 1, x.aim(0, 2));
        Check.due("stand()", 1, x.stand());
        x.line(1);
        x.sentence();
        Check.due("restore(0)", true, x.restore(0));
        Check.due("told(0)", 11, x.told(0));
        Check.due("told(1)", 1, x.told(1));
        Check.due("told(2)", 5, x.told(2));
        Check.due("told(3)", 2, x.told(3));
        Check.due("aimSeat()", 1, x.aimSeat());
        Check.due("standing()", 1, x.standing());
        Check.due("byteAt(0)", 'q', x.byteAt(0));
        Check.due("fault()", 1, x.fault());
    }

    @Says(of = 38, value = "nothing can be undone): true")
    static void nothingUndone() {
        RideLaws x = Check.riding(TEXT);
        x.ticks(1);
        x.image(0);
        x.ticks(1);
        x.mount(1, 1);
        Check.due("restore(0)", true, x.restore(0));
        Check.due("undo()", -1, x.undo());
        Check.due("now(0)", 1, x.now(0));
        x.ticks(4);
        Check.due("undo() of what came then", 0, x.undo());
        Check.due("now(0)", 1, x.now(0));
    }

    @Says(of = 38, value = "false: no such one, or nothing is kept there.")
    static void restoreNone() {
        RideLaws x = running();
        Check.due("restore(0) of nothing", false, x.restore(0));
        Check.due("restore(1) of nothing", false, x.restore(1));
        x.image(1);
        Check.due("restore(0) of nothing still", false, x.restore(0));
        x.image(0);
        x.ticks(1);
        for (int far : FAR) {
            Check.due("restore(" + far + ")", false, x.restore(far));
        }
        Check.due("now(0)", 10, x.now(0));
        Check.due("undo() is left", 5, x.undo());
        Check.due("restore(1) of a new object", false, new RideLaws().restore(1));
    }
}
