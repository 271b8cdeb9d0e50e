/** Terms of section 2, and promises 11 to 16: mount, alight, learn, whistle, ticks, undo. */
public final class EdgeTickTest {
    // r says v behind 1 tick, w behind 3 (l holds then), v behind 5 (m holds, too, then), and so on.
    private static final String TEXT = "ring a 2 1;seat s a 1;seat t a 0;word v;word w;rider r s;rider q;"
            + "says r v;says r w;law l v w;law m w v;";
    private static final int[] FAR = {-1, -2, 8, 99, Integer.MAX_VALUE, Integer.MIN_VALUE};

    public static void main(String[] args) {
        Edges.run(EdgeTickTest.class);
    }

    @Says("A SEAT is at the BOX, when it is AT step 0 of its RING.")
    static void atTheBox() {
        RideLaws x = Check.riding("ring a 3 1;ring b 2 2;seat s a 0;seat t a 1;seat u a 2;seat w b 0;seat y b 1;");
        int[] want = {1 + 8, 4 + 8, 2 + 8, 1 + 8};
        for (int i = 0; i < want.length; i++) {
            Check.due("now(5) behind " + i, want[i], x.now(5));
            x.ticks(1);
        }
    }

    /** A word that is said first has no word ahead of it, not even the first of all words. */
    @Says("There is a LATEST word, or none (at first).")
    static void latestAtFirst() {
        RideLaws x = Check.riding("ring a 2 1;seat s a 1;word v;rider r s;says r v;law l v v;");
        Check.due("now(1)", -1, x.now(1));
        Check.due("now(2)", -1, x.now(2));
        x.ticks(1);
        Check.due("now(1)", 0, x.now(1));
        Check.due("now(2)", 0, x.now(2));
        Check.due("law(0, 2)", 0, x.law(0, 2));
        Check.due("law(0, 4)", 0, x.law(0, 4));
        x.ticks(2);
        Check.due("law(0, 2)", 1, x.law(0, 2));
    }

    @Says("To MOUNT a SEAT: why not, the least: 1 he is on one; 2 somebody is there: he is on it.")
    static void toMount() {
        RideLaws x = Check.riding("ring a 4 1;seat s a 1;seat t a 0;seat u a 2;rider r s;rider q;rider p t;");
        Check.due("mount(0, 2), he is on one", 1, x.mount(0, 2));
        Check.due("mount(0, 0), he is on it", 1, x.mount(0, 0));
        Check.due("mount(0, 1), both reasons", 1, x.mount(0, 1));
        Check.due("mount(1, 0), somebody is there", 2, x.mount(1, 0));
        Check.due("now(6)", 3, x.now(6));
        Check.due("mount(1, 2)", 0, x.mount(1, 2));
        Check.due("rider(1, 0)", 2, x.rider(1, 0));
        Check.due("seat(2, 2)", 1, x.seat(2, 2));
        Check.due("now(6)", 7, x.now(6));
        Check.due("mount(1, 2) again", 1, x.mount(1, 2));
    }

    @Says("To ALIGHT: 1 he is on none: he is.")
    static void toAlight() {
        RideLaws x = Check.riding(TEXT);
        Check.due("alight(1)", 1, x.alight(1));
        Check.due("alight(0)", 0, x.alight(0));
        Check.due("rider(0, 0)", -1, x.rider(0, 0));
        Check.due("seat(0, 2)", -1, x.seat(0, 2));
        Check.due("now(6)", 0, x.now(6));
        Check.due("alight(0) again", 1, x.alight(0));
        Check.due("mount(1, 0), where he was", 0, x.mount(1, 0));
    }

    @Says("To LEARN a WORD: 1 his ROLL has 6: it is the last of it.")
    static void toLearn() {
        RideLaws x = Check.riding(TEXT);
        for (int i = 0; i < 4; i++) {
            Check.due("learn(0, 0)", 0, x.learn(0, 0));
            Check.due("roll(0, " + (i + 2) + ")", 0, x.roll(0, i + 2));
            Check.due("rider(0, 1)", i + 3, x.rider(0, 1));
        }
        Check.due("learn(0, 1) with 6", 1, x.learn(0, 1));
        Check.due("rider(0, 1)", 6, x.rider(0, 1));
        Check.due("roll(0, 5)", 0, x.roll(0, 5));
        Check.due("learn(1, 1), another one", 0, x.learn(1, 1));
        Check.due("roll(1, 0)", 1, x.roll(1, 0));
    }

    @Says("To WHISTLE: 1 no LAW holds and there is no LATEST word")
    static void noWhistle() {
        RideLaws x = Check.riding(TEXT);
        Check.due("whistle() at first", 1, x.whistle());
        Check.due("now(7)", 0, x.now(7));
        x.alight(0);
        x.ticks(9);
        Check.due("whistle(), nothing was said", 1, x.whistle());
        x.mount(0, 0);
        x.ticks(2);
        Check.due("now(3), no law holds", 0, x.now(3));
        Check.due("whistle() with a latest word", 0, x.whistle());
        Check.due("whistle() once more", 1, x.whistle());
        Check.due("now(7)", 1, x.now(7));
        x.ticks(4);
        Check.due("now(3), a law holds", 1, x.now(3));
        Check.due("whistle() with a law", 0, x.whistle());
        Check.due("now(7)", 2, x.now(7));
    }

    @Says("none holds, there is none, each ROLL begins anew.")
    static void whistled() {
        RideLaws x = Check.riding("ring a 2 1;ring b 2 1;seat s a 1;seat t b 1;word v;word w;rider r s;rider q t;rider p;"
                + "says r v;says r w;says q w;says q v;law l v w;law m w v;");
        x.ticks(3);
        Check.due("now(3)", 3, x.now(3));
        x.alight(1);
        x.ticks(2);
        Check.due("rider(0, 2)", 1, x.rider(0, 2));
        Check.due("whistle()", 0, x.whistle());
        Check.due("now(3)", 0, x.now(3));
        Check.due("now(1)", -1, x.now(1));
        Check.due("now(2)", -1, x.now(2));
        Check.due("rider(0, 2)", 0, x.rider(0, 2));
        Check.due("rider(1, 2) of one who alighted", 1, x.rider(1, 2));
        Check.due("rider(2, 2) of one without a roll", -1, x.rider(2, 2));
        x.ticks(2);
        Check.due("no law of a word ahead of the whistle", 0, x.now(3));
        Check.due("now(1)", 0, x.now(1));
    }

    @Says("A TICK (0 to 999; 1000: all are over) goes")
    static void ticksTill1000() {
        RideLaws x = Check.riding(TEXT);
        Check.due("now(0) at first", 0, x.now(0));
        Check.toLastTick(x);
        x.undo();
        x.ticks(39);
        Check.due("now(0)", 999, x.now(0));
        Check.due("ticks(1) at 999", 1, x.ticks(1));
        Check.due("now(0)", 1000, x.now(0));
        Check.due("ticks(1) at 1000", 0, x.ticks(1));
        Check.due("ticks(60) at 1000", 0, x.ticks(60));
        Check.due("drawn(1, 1) at 1000", 0, x.drawn(1, 1));
        Check.due("now(0)", 1000, x.now(0));
        Check.due("seat(0, 1)", 1, x.seat(0, 1));
        Check.due("now(4)", 500, x.now(4));
        Check.due("a book's tick", 0, Check.book(x, "tick 1;", 1));
        Check.due("now(0)", 1000, x.now(0));
    }

    @Says("each SEAT is SPEED steps on, all round.")
    static void allRound() {
        RideLaws x = Check.riding("ring a 30 9;ring b 2 9;ring c 9 9;seat s a 29;seat t a 21;seat u a 20;seat w b 0;seat y b 1;seat z c 8;");
        int[] at = {8, 0, 29, 1, 0, 8};
        x.ticks(1);
        for (int s = 0; s < at.length; s++) {
            Check.due("seat(" + s + ", 1)", at[s], x.seat(s, 1));
        }
        x.ticks(2);
        Check.due("seat(0, 1)", 26, x.seat(0, 1));
        Check.due("seat(3, 1)", 1, x.seat(3, 1));
        x.ticks(7);
        Check.due("seat(0, 1), all round to where it was", 29, x.seat(0, 1));
        RideLaws y = Check.riding("ring a 8 9;ring b 3 4;ring c 29 1;seat s a 7;seat t b 2;seat u c 28;");
        y.ticks(1);
        for (int s = 0; s < 3; s++) {
            Check.due("seat(" + s + ", 1)", 0, y.seat(s, 1));
        }
    }

    /** By the seats' numbers, not the riders' nor the rings'. */
    @Says("Then SEAT by SEAT that is at the BOX")
    static void seatBySeat() {
        RideLaws x = Check.riding("ring a 2 1;ring b 2 1;ring c 2 1;seat s c 1;seat t a 1;seat u b 1;word v;word w;word z;"
                + "rider r u;rider q t;rider p s;says r v;says q w;says p z;law l z w;law m w v;law n v w;law o w z;");
        x.ticks(1);
        Check.due("now(1)", 0, x.now(1));
        Check.due("now(2)", 0, x.now(2));
        Check.due("now(3)", 3, x.now(3));
        Check.due("now(4)", 3, x.now(4));
        x.ticks(1);
        Check.due("now(4), none is there", 3, x.now(4));
    }

    @Says("and on which there is a RIDER whose ROLL is not empty")
    static void whoSpeaks() {
        RideLaws x = Check.riding("ring a 2 1;ring b 2 1;ring c 2 1;seat s a 1;seat t b 1;seat u c 1;word v;word w;"
                + "rider r t;rider q s;rider p;says q v;says p w;law l v v;");
        x.ticks(1);
        Check.due("now(4)", 1, x.now(4));
        Check.due("now(2)", 1, x.now(2));
        Check.due("rider(0, 3), mute", 0, x.rider(0, 3));
        Check.due("rider(2, 3), off", 0, x.rider(2, 3));
        x.ticks(2);
        Check.due("now(3), a mute one leaves the latest word", 1, x.now(3));
        x.learn(0, 1);
        x.mount(2, 2);
        x.ticks(2);
        Check.due("now(4)", 5, x.now(4));
        Check.due("now(2)", 2, x.now(2));
    }

    /** All eight seats and all six riders are gone through. */
    @Says("Then SEAT by SEAT that is at the BOX and on which there is a RIDER")
    static void fullHouse() {
        RideLaws x = Check.riding("ring x 9 1;seat a x 8;seat b x 7;seat c x 6;seat d x 5;seat e x 4;seat f x 3;seat g x 2;seat h x 1;"
                + "word v;rider ra a;rider rb b;rider rc c;rider rd f;rider re g;rider rf h;"
                + "says ra v;says rb v;says rc v;says rd v;says re v;says rf v;");
        int[] by = {0, 1, 2, 2, 2, 3, 4, 5, 5, 0};
        Check.due("now(6)", 231, x.now(6));
        for (int i = 0; i < by.length; i++) {
            x.ticks(1);
            Check.due("now(2) behind " + (i + 1), by[i], x.now(2));
            Check.due("now(5) behind " + (i + 1), i == 8 ? 0 : 1 << i % 9, x.now(5));
        }
        Check.due("most()", 0, x.most());
        Check.due("all()", 9, x.all());
    }

    @Says("he says the next word of his ROLL (the first at first; behind the last one the first again)")
    static void roundTheRoll() {
        RideLaws x = Check.riding("ring a 2 2;seat s a 0;word c;word d;word e;word f;word g;word h;rider r s;"
                + "says r c;says r d;says r e;says r f;says r g;says r h;");
        for (int i = 0; i < 13; i++) {
            Check.due("rider(0, 2) behind " + i, i % 6, x.rider(0, 2));
            x.ticks(1);
            Check.due("now(1) behind " + (i + 1), i % 6, x.now(1));
        }
        Check.due("rider(0, 3)", 13, x.rider(0, 3));
        RideLaws y = Check.riding("ring a 2 2;seat s a 0;word c;word d;rider r s;says r d;");
        y.ticks(3);
        Check.due("rider(0, 2) of one word", 1, y.rider(0, 2));
    }

    @Says("if the LATEST word and this one, in this order, are those of a LAW, it holds")
    static void inThisOrder() {
        RideLaws x = Check.riding("ring a 2 2;seat s a 0;word v;word w;word z;rider r s;says r v;says r w;says r z;says r z;"
                + "law k w v;law l v w;law m w z;law n z z;law o z v;law p v z;law q v v;");
        int[] want = {0, 2, 6, 14, 30, 30, 30};
        for (int i = 0; i < want.length; i++) {
            x.ticks(1);
            Check.due("now(3) behind word " + (i + 1), want[i], x.now(3));
        }
    }

    @Says("and all LAWS that clash with it do not any more")
    static void clashesFall() {
        RideLaws x = Check.riding("ring a 2 2;seat s a 0;word c;word d;rider r s;says r c;says r c;says r d;says r d;"
                + "law k c c;law l c d;law m d d;law n d c;clash n k;clash m n;clash l n;clash k l;");
        int[] want = {0, 1, 2, 6, 8, 1, 2, 6, 8};
        for (int i = 0; i < want.length; i++) {
            x.ticks(1);
            Check.due("now(3) behind word " + (i + 1), want[i], x.now(3));
        }
    }

    @Says("this word is the LATEST.")
    static void thisIsTheLatest() {
        RideLaws x = Check.riding(TEXT);
        int[] want = {0, 0, 1, 1, 0};
        for (int i = 0; i < want.length; i++) {
            x.ticks(1);
            Check.due("now(1) behind " + (i + 1), want[i], x.now(1));
        }
    }

    @Says("It is the next TICK.")
    static void nextTick() {
        RideLaws x = new RideLaws();
        for (int i = 1; i <= 5; i++) {
            x.ticks(1);
            Check.due("now(0)", i, x.now(0));
        }
    }

    @Says("(Who alights, goes on in his ROLL where he was")
    static void goesOnWhereHeWas() {
        RideLaws x = Check.riding("ring a 2 2;seat s a 0;seat t a 1;word c;word d;word e;rider r s;rider q;says r c;says r d;says r e;says q c;");
        x.ticks(2);
        x.alight(0);
        Check.due("rider(0, 2)", 2, x.rider(0, 2));
        x.mount(1, 0);
        x.ticks(3);
        x.mount(0, 1);
        x.ticks(1);
        x.alight(0);
        x.alight(1);
        x.mount(0, 0);
        x.ticks(1);
        Check.due("now(1)", 2, x.now(1));
        Check.due("rider(0, 2)", 0, x.rider(0, 2));
    }

    @Says("who has said the last word says the first one next, also if he LEARNS one then.)")
    static void learnsBehindTheLast() {
        RideLaws x = Check.riding("ring a 2 2;seat s a 0;word c;word d;word e;rider r s;says r c;says r d;");
        x.ticks(2);
        x.learn(0, 2);
        Check.due("rider(0, 2)", 0, x.rider(0, 2));
        int[] want = {0, 1, 2, 0};
        for (int word : want) {
            x.ticks(1);
            Check.due("now(1)", word, x.now(1));
        }
        x.learn(0, 1);
        Check.due("rider(0, 2), learned in the midst", 1, x.rider(0, 2));
        RideLaws y = Check.riding("ring a 2 2;seat s a 0;word c;word d;rider r s;says r c;");
        y.ticks(1);
        y.alight(0);
        y.learn(0, 1);
        Check.due("rider(0, 2), alighted and learned", 0, y.rider(0, 2));
    }

    @Says(of = 11, value = "A RIDER MOUNTS a SEAT: 0, or why not")
    static void mount() {
        RideLaws x = Check.riding("ring z 9 1;seat a z 0;seat b z 1;seat c z 2;seat d z 3;seat e z 4;seat f z 5;seat g z 6;seat h z 7;"
                + "rider ra;rider rb;rider rc;rider rd;rider re;rider rf;");
        for (int r = 0; r < 6; r++) {
            Check.due("mount(" + r + ", " + (7 - r) + ")", 0, x.mount(r, 7 - r));
        }
        Check.due("now(6)", 252, x.now(6));
        Check.due("mount(5, 0)", 1, x.mount(5, 0));
        x.alight(5);
        Check.due("mount(5, 7)", 2, x.mount(5, 7));
        Check.due("mount(5, 2)", 0, x.mount(5, 2));
    }

    @Says(of = 11, value = "NONE: no such ones.")
    static void mountNone() {
        RideLaws x = Check.riding(TEXT);
        for (int far : FAR) {
            Check.due("mount(" + far + ", 1)", -1, x.mount(far, 1));
            Check.due("mount(1, " + far + ")", -1, x.mount(1, far));
            Check.due("mount(" + far + ", " + far + ")", -1, x.mount(far, far));
        }
        Check.due("mount(2, 1)", -1, x.mount(2, 1));
        Check.due("mount(1, 2)", -1, x.mount(1, 2));
        Check.due("mount(0, 2) of one who is on one", -1, x.mount(0, 2));
        Check.due("now(6)", 1, x.now(6));
        Check.due("undo()", -1, x.undo());
        Check.due("mount(0, 0) of no ride", -1, new RideLaws().mount(0, 0));
    }

    @Says(of = 12, value = "He ALIGHTS: 0, or why not")
    static void alight() {
        RideLaws x = Check.riding(TEXT);
        Check.due("alight(0)", 0, x.alight(0));
        Check.due("alight(0) again", 1, x.alight(0));
        Check.due("alight(1)", 1, x.alight(1));
    }

    @Says(of = 12, value = "NONE: no such one.")
    static void alightNone() {
        RideLaws x = Check.riding(TEXT);
        for (int far : FAR) {
            Check.due("alight(" + far + ")", -1, x.alight(far));
        }
        Check.due("alight(2)", -1, x.alight(2));
        Check.due("undo()", -1, x.undo());
        Check.due("alight(0) of no ride", -1, new RideLaws().alight(0));
    }

    @Says(of = 13, value = "He LEARNS a WORD: 0, or why not")
    static void learn() {
        RideLaws x = Check.riding(TEXT);
        for (int i = 0; i < 6; i++) {
            Check.due("learn(1, 1)", 0, x.learn(1, 1));
        }
        Check.due("learn(1, 1) with 6", 1, x.learn(1, 1));
        RideLaws y = Check.riding("word a;word b;word c;word d;word e;word f;word g;word h;rider r;");
        Check.due("learn(0, 7)", 0, y.learn(0, 7));
        Check.due("roll(0, 0)", 7, y.roll(0, 0));
        Check.due("rider(0, 4)", 128, y.rider(0, 4));
    }

    @Says(of = 13, value = "NONE: no such ones.")
    static void learnNone() {
        RideLaws x = Check.riding(TEXT + "says r v;says r v;says r v;says r v;");
        for (int far : FAR) {
            Check.due("learn(" + far + ", 1)", -1, x.learn(far, 1));
            Check.due("learn(1, " + far + ")", -1, x.learn(1, far));
        }
        Check.due("learn(2, 0)", -1, x.learn(2, 0));
        Check.due("learn(1, 2)", -1, x.learn(1, 2));
        Check.due("learn(0, 2) of one who has 6", -1, x.learn(0, 2));
        Check.due("rider(1, 1)", 0, x.rider(1, 1));
        Check.due("undo()", -1, x.undo());
        Check.due("learn(0, 0) of no ride", -1, new RideLaws().learn(0, 0));
    }

    @Says(of = 14, value = "The WHISTLE: 0, or why not.")
    static void whistle() {
        RideLaws x = Check.riding(TEXT);
        Check.due("whistle()", 1, x.whistle());
        x.ticks(1);
        Check.due("whistle()", 0, x.whistle());
        Check.due("whistle()", 1, x.whistle());
        Check.due("whistle() of no ride", 1, new RideLaws().whistle());
    }

    @Says(of = 15, value = "n (1 to 60) TICKS go by: how many did")
    static void ticks() {
        RideLaws x = Check.riding(TEXT);
        Check.due("ticks(1)", 1, x.ticks(1));
        Check.due("now(0)", 1, x.now(0));
        Check.due("ticks(60)", 60, x.ticks(60));
        Check.due("now(0)", 61, x.now(0));
        Check.due("seat(0, 1)", 0, x.seat(0, 1));
        Check.due("rider(0, 3)", 31, x.rider(0, 3));
        for (int i = 0; i < 15; i++) {
            x.ticks(60);
        }
        Check.due("ticks(60) at 961", 39, x.ticks(60));
        Check.due("ticks(60) at 1000", 0, x.ticks(60));
        Check.due("ticks(60) of no ride", 60, new RideLaws().ticks(60));
    }

    @Says(of = 15, value = "NONE: not as told.")
    static void ticksNone() {
        RideLaws x = Check.riding(TEXT);
        int[] others = {0, -1, 61, 62, Integer.MAX_VALUE, Integer.MIN_VALUE};
        for (int n : others) {
            Check.due("ticks(" + n + ")", -1, x.ticks(n));
        }
        Check.due("now(0)", 0, x.now(0));
        Check.due("undo()", -1, x.undo());
        Check.toLastTick(x);
        Check.due("ticks(61) at 1000", -1, x.ticks(61));
        Check.due("ticks(0) at 1000", -1, x.ticks(0));
    }

    private static void dueUndone(String act, RideLaws x, String before) {
        Check.due("undo() of " + act, 0, x.undo());
        Check.dueText("all behind undo() of " + act, before, Check.all(x));
        Check.due("undo() of nothing more", -1, x.undo());
    }

    private static RideLaws running() {
        RideLaws x = Check.riding(TEXT);
        x.ticks(3);
        x.image(0);
        x.restore(0);
        return x;
    }

    @Says(of = 16, value = "The latest of mount()")
    static void undoMount() {
        RideLaws x = running();
        String before = Check.all(x);
        x.mount(1, 1);
        dueUndone("mount", x, before);
    }

    @Says(of = 16, value = "alight()")
    static void undoAlight() {
        RideLaws x = running();
        String before = Check.all(x);
        x.alight(0);
        dueUndone("alight", x, before);
    }

    @Says(of = 16, value = "learn()")
    static void undoLearn() {
        RideLaws x = running();
        String before = Check.all(x);
        x.learn(0, 0);
        dueUndone("learn", x, before);
    }

    @Says(of = 16, value = "whistle() that was done")
    static void undoWhistle() {
        RideLaws x = running();
        String before = Check.all(x);
        x.whistle();
        dueUndone("whistle", x, before);
    }

    /** What was not done is not undone, and what was done ahead of it is. */
    @Says(of = 16, value = "that was done")
    static void onlyWhatWasDone() {
        RideLaws x = Check.riding(TEXT);
        x.ticks(1);
        x.mount(0, 1);
        x.mount(1, 0);
        x.mount(9, 9);
        x.alight(1);
        x.alight(9);
        x.learn(9, 0);
        x.whistle();
        x.whistle();
        x.ticks(0);
        x.ticks(61);
        x.drawn(0, 1);
        x.drawn(61, 1);
        Check.due("undo() of the first whistle", 1, x.undo());
        Check.due("now(7)", 0, x.now(7));
        Check.due("now(1)", 0, x.now(1));
        Check.due("now(0)", 1, x.now(0));
        Check.due("undo() of the tick", 0, x.undo());
        Check.due("now(0)", 0, x.now(0));
    }

    @Says(of = 16, value = "ticks() above 0")
    static void undoTicks() {
        RideLaws x = running();
        String before = Check.all(x);
        x.ticks(1);
        dueUndone("ticks", x, before);
        RideLaws y = Check.riding(TEXT);
        Check.toLastTick(y);
        Check.due("ticks(5) at 1000", 0, y.ticks(5));
        Check.due("undo() of the 40 ahead", 7, y.undo());
        Check.due("now(0)", 960, y.now(0));
    }

    @Says(of = 16, value = "drawn() above 0")
    static void undoDrawn() {
        RideLaws x = running();
        String before = Check.all(x);
        x.drawn(1, 5);
        dueUndone("drawn of one", x, before);
        RideLaws z = running();
        z.drawn(60, 5);
        dueUndone("drawn of sixty", z, before);
        RideLaws y = Check.riding(TEXT);
        Check.toLastTick(y);
        Check.due("drawn(5, 5) at 1000", 0, y.drawn(5, 5));
        Check.due("undo() of the 40 ahead", 7, y.undo());
        Check.due("now(0)", 960, y.now(0));
    }

    @Says(of = 16, value = "a BOOK of which some LINE was lived is undone")
    static void undoBook() {
        RideLaws x = running();
        String before = Check.all(x);
        Check.book(x, "tick 5;q mounts t;whistle;r learns v;", 1);
        dueUndone("a book of four lines", x, before);
        Check.book(x, "q learns v;q alights;", 1);
        Check.due("undo() of a book of one line", 0, x.undo());
        Check.due("rider(1, 1)", 0, x.rider(1, 1));
        x.ticks(1);
        Check.book(x, "q alights;tick 5;", 1);
        Check.book(x, "", 1);
        Check.book(x, "tick 5;", 0);
        Check.book(x, "tick 99;", 1);
        Check.due("undo() of the tick ahead", 0, x.undo());
        Check.due("now(0)", 3, x.now(0));
    }

    @Says(of = 16, value = "how many more can be (8 at most are kept)")
    static void eightAreKept() {
        RideLaws x = Check.riding(TEXT);
        for (int i = 0; i < 8; i++) {
            x.ticks(1);
        }
        for (int left = 7; left >= 0; left--) {
            Check.due("undo() of eight", left, x.undo());
            Check.due("now(0)", left, x.now(0));
        }
        Check.due("undo() of none", -1, x.undo());
        for (int i = 0; i < 9; i++) {
            x.ticks(1);
        }
        for (int left = 7; left >= 0; left--) {
            Check.due("undo() of nine", left, x.undo());
            Check.due("now(0)", left + 1, x.now(0));
        }
        Check.due("undo() of the ninth", -1, x.undo());
        Check.due("now(0)", 1, x.now(0));
        x.learn(1, 1);
        x.mount(1, 1);
        Check.due("undo() of two", 1, x.undo());
        x.alight(0);
        Check.due("undo() behind an undo()", 1, x.undo());
        Check.due("rider(0, 0)", 0, x.rider(0, 0));
        Check.due("rider(1, 0)", -1, x.rider(1, 0));
        Check.due("rider(1, 1)", 1, x.rider(1, 1));
    }

    @Says(of = 16, value = "NONE: none is.")
    static void nothingToUndo() {
        Check.due("undo() of a new object", -1, new RideLaws().undo());
        RideLaws x = Check.riding(TEXT);
        Check.due("undo() of a new ride", -1, x.undo());
        x.ticks(3);
        String behind = Check.all(x);
        Check.due("undo()", 0, x.undo());
        Check.due("undo()", -1, x.undo());
        Check.due("undo()", -1, x.undo());
        x.ticks(3);
        Check.dueText("the same ticks again", behind, Check.all(x));
    }
}
