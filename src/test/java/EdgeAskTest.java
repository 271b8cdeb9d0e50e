/** Promises 1 to 10 and 39, and what the terms say of new rides and of calls that throw. */
public final class EdgeAskTest {
    // r says v behind 1 tick, w behind 3 (l holds then), v behind 5 (m holds, l falls), and so on.
    private static final String TEXT = "ring a 2 1;ring b 3 1;seat s a 1;seat t a 0;seat u b 2;word v;word w;word z;rider r s;rider q;rider p u;"
            + "says r v;says r w;law l v w;law m w v;law n z z;clash l m;clash n m;";
    private static final int[] FAR = {-1, -2, 8, 99, Integer.MAX_VALUE, Integer.MIN_VALUE};
    private static final int BLANKS = 0x20202020;

    public static void main(String[] args) {
        Edges.run(EdgeAskTest.class);
    }

    private static void dueNow(String when, RideLaws x, int... want) {
        for (int what = 0; what < want.length; what++) {
            Check.due("now(" + what + ") " + when, want[what], x.now(what));
        }
    }

    /** What was tried out ahead of a ride, or in another one, is not in the next. */
    @Says("A new RIDE: TICK 0, nothing said, no LAW holds, no SENTENCE.")
    static void newRide() {
        String fresh = Check.all(Check.riding(TEXT));
        RideLaws x = Check.riding(TEXT);
        Check.sentence(x, "up");
        x.ticks(6);
        x.whistle();
        x.ticks(7);
        x.mount(1, 1);
        x.learn(1, 0);
        Check.book(x, "tick 9;r alights;", 0);
        Check.due("ride()", 18, Check.ride(x, TEXT));
        dueNow("of a new ride", x, 0, -1, -1, 0, 0, 2, 5, 0);
        Check.due("said(-1)", -1, x.said(-1));
        Check.due("most()", -1, x.most());
        Check.dueText("all of a new ride", fresh, Check.all(x));
    }

    @Says("A new RIDE: TICK 0, nothing said, no LAW holds")
    static void newRideBehindTrials() {
        String fresh = Check.all(Check.riding(TEXT));
        for (int trial = 0; trial < 5; trial++) {
            RideLaws x = Check.riding(TEXT);
            x.ticks(3);
            if (trial == 0) {
                x.holds(2);
            } else if (trial == 1) {
                x.aim(1, 99);
            } else if (trial == 2) {
                x.all();
            } else if (trial == 3) {
                x.odds(0, 30, 5);
            } else {
                Check.book(x, "tick 8;q mounts t;q learns w;tick 8;", 0);
            }
            Check.ride(x, TEXT);
            Check.dueText("all of a new ride behind trial " + trial, fresh, Check.all(x));
        }
    }

    /** A smaller ride behind a bigger one shows nothing of it. */
    @Says("A new RIDE")
    static void smallerRide() {
        RideLaws x = Check.riding(TEXT);
        x.ticks(9);
        Check.due("ride()", 3, Check.ride(x, "ring k 5 1;seat j k 0;rider i;"));
        Check.due("rider(0, 1)", 0, x.rider(0, 1));
        Check.due("rider(0, 0)", -1, x.rider(0, 0));
        Check.due("seat(0, 2)", -1, x.seat(0, 2));
        Check.due("seat(0, 1)", 0, x.seat(0, 1));
        Check.due("seat(1, 0)", -1, x.seat(1, 0));
        Check.due("law(0, 3)", -1, x.law(0, 3));
        Check.due("now(6)", 0, x.now(6));
        Check.due("a name of the ride ahead", -2, Check.book(x, "r alights;", 0));
        Check.due("ride()", 4, Check.ride(x, "word v;word w;law a w v;law b v w;"));
        Check.due("law(0, 3), a clash of the ride ahead", 0, x.law(0, 3));
        Check.due("law(1, 3), a clash of the ride ahead", 0, x.law(1, 3));
    }

    @Says("A call that throws changes nothing.")
    static void throwsChangeNothing() {
        RideLaws x = Check.riding(TEXT);
        x.stand();
        Check.sentence(x, "up");
        x.line(0);
        x.feed(1, 2, 3, 4, 5);
        Check.dueThrow("part(0, 0)", () -> x.part(0, 0));
        x.ticks(5);
        String before = Check.all(x);
        Check.dueThrow("rider(9, 0)", () -> x.rider(9, 0));
        Check.dueThrow("rider(0, 9)", () -> x.rider(0, 9));
        Check.dueThrow("power(0, 9, 0)", () -> x.power(0, 9, 0));
        Check.dueThrow("part(9, 0)", () -> x.part(9, 0));
        Check.dueText("all", before, Check.all(x));
        Check.due("count(5)", 20, x.count(5));
        Check.due("fault()", 0, x.fault());
        Check.due("standing()", 5, x.standing());
        Check.due("byteAt(0)", 'r', x.byteAt(0));
        Check.due("undo()", 0, x.undo());
    }

    @Says(of = 1, value = "A RIDE without RINGS")
    static void noRings() {
        RideLaws x = new RideLaws();
        for (int what = 0; what < 5; what++) {
            Check.due("count(" + what + ")", 0, x.count(what));
        }
        dueNow("of a new object", x, 0, -1, -1, 0, 0, 0, 0, 0);
        Check.due("ticks(60)", 60, x.ticks(60));
        dueNow("behind 60 ticks", x, 60, -1, -1, 0, 0, 0, 0, 0);
        Check.due("undo()", 0, x.undo());
        Check.due("said(-1)", -1, x.said(-1));
        Check.due("a seat without a ring", -8, Check.ride(x, "seat s a 0;"));
    }

    @Says(of = 1, value = "an empty tape.")
    static void emptyTape() {
        RideLaws x = new RideLaws();
        Check.due("count(5)", 0, x.count(5));
        Check.due("end(1)", false, x.end(1));
        Check.due("ride() of an empty tape", 0, x.ride());
        Check.due("book(0) of an empty tape", -1, x.book(0));
        Check.due("sentence() of an empty tape", -1, x.sentence());
        Check.due("fault()", 1, x.fault());
    }

    @Says(of = 2, value = "Twenty bytes come behind the tape")
    static void twentyBytes() {
        RideLaws x = new RideLaws();
        x.feed(0x776f7264, 0x20612020, BLANKS, BLANKS, BLANKS);
        x.feed(0x3b20776f, 0x72642062, 0x3b202020, BLANKS, BLANKS);
        Check.due("ride() of forty bytes", 2, x.ride());
        x.feed(0x776f7264, 0x20613b00, 0, 0, 0);
        x.end(7);
        x.feed(0x776f7264, 0x20623b20, BLANKS, BLANKS, BLANKS);
        Check.due("ride() of twenty behind seven", 2, x.ride());
        x.feed(BLANKS, BLANKS, BLANKS, BLANKS, 0x20202000);
        Check.due("ride(), the twentieth byte is one", -20, x.ride());
    }

    @Says(of = 2, value = "of each number the highest first")
    static void highestFirst() {
        int[] letters = {0x61626364, 0x3b727369, 0x7a617463, 0x6d6e6f70};
        RideLaws x = new RideLaws();
        x.feed(0x776f7264, 0x20202020, letters[0], 0x65666720, 0x3b202020);
        Check.due("ride()", 1, x.ride());
        x.feed(0x72696465, 0x72206162, 0x63646566, 0x673b2020, BLANKS);
        Check.due("ride()", 1, x.ride());
        Check.dueText("line(0)", "abcdefg off mute", Check.line(x, 0));
        for (int place = 0; place < 20; place++) {
            int[] n = {BLANKS, BLANKS, BLANKS, BLANKS, BLANKS};
            n[place / 4] ^= 0xdf << 24 - 8 * (place % 4);
            Check.due("feed", 20, x.feed(n[0], n[1], n[2], n[3], n[4]));
            Check.due("ride() of byte 255 at " + place, -1 - place, x.ride());
        }
    }

    @Says(of = 2, value = "how many it has")
    static void howManyBytes() {
        RideLaws x = new RideLaws();
        Check.due("feed", 20, x.feed(0, 0, 0, 0, 0));
        Check.due("feed", 40, x.feed(0, 0, 0, 0, 0));
        x.end(3);
        Check.due("feed behind end(3)", 23, x.feed(0, 0, 0, 0, 0));
        x.ride();
        Check.due("feed behind ride()", 20, x.feed(0, 0, 0, 0, 0));
    }

    @Says(of = 2, value = "NONE, and none come, if it would have more than 940.")
    static void fullTape() {
        RideLaws x = new RideLaws();
        for (int i = 1; i <= 47; i++) {
            Check.due("feed", 20 * i, x.feed(BLANKS, BLANKS, BLANKS, BLANKS, BLANKS));
        }
        Check.due("feed of 960", -1, x.feed(0, 0, 0, 0, 0));
        Check.due("count(5)", 940, x.count(5));
        x.end(921);
        Check.due("feed of 941", -1, x.feed(0, 0, 0, 0, 0));
        Check.due("count(5)", 921, x.count(5));
        x.end(920);
        Check.due("feed of 940", 940, x.feed(BLANKS, BLANKS, BLANKS, BLANKS, BLANKS));
        x.end(900);
        Check.due("ride() of blanks, no other byte came", 0, x.ride());
    }

    @Says(of = 3, value = "The tape has its first n bytes alone: true")
    static void end() {
        RideLaws x = new RideLaws();
        Check.due("end(0) of an empty tape", true, x.end(0));
        x.feed(0x776f7264, 0x20613b3f, 0, 0, 0);
        Check.due("end(20)", true, x.end(20));
        Check.due("count(5)", 20, x.count(5));
        Check.due("end(8)", true, x.end(8));
        Check.due("count(5)", 8, x.count(5));
        Check.due("end(7)", true, x.end(7));
        Check.due("ride() of the first seven", 1, x.ride());
        x.feed(BLANKS, 0, 0, 0, 0);
        Check.due("end(0)", true, x.end(0));
        Check.due("count(5)", 0, x.count(5));
    }

    @Says(of = 3, value = "false, if it has not so many, or n is below 0.")
    static void endFalse() {
        RideLaws x = new RideLaws();
        Check.due("end(1) of an empty tape", false, x.end(1));
        Check.due("end(-1) of an empty tape", false, x.end(-1));
        x.feed(BLANKS, BLANKS, BLANKS, BLANKS, BLANKS);
        int[] others = {21, 22, 940, 941, -1, -20, Integer.MAX_VALUE, Integer.MIN_VALUE};
        for (int n : others) {
            Check.due("end(" + n + ")", false, x.end(n));
            Check.due("count(5)", 20, x.count(5));
        }
        x.end(5);
        Check.due("end(6), no byte comes back", false, x.end(6));
        Check.due("count(5)", 5, x.count(5));
    }

    @Says(of = 4, value = "The tape (empty then, here and below) is the RIDE now")
    static void rideNow() {
        RideLaws x = new RideLaws();
        Check.tape(x, TEXT);
        Check.due("ride()", 18, x.ride());
        Check.due("count(5) behind ride()", 0, x.count(5));
        Check.due("count(3)", 3, x.count(3));
        Check.due("ride() of the empty tape", 0, x.ride());
        Check.due("count(3)", 0, x.count(3));
        Check.tape(x, "tick 1;");
        x.book(0);
        Check.due("count(5) behind book()", 0, x.count(5));
        Check.tape(x, "up");
        x.sentence();
        Check.due("count(5) behind sentence()", 0, x.count(5));
        Check.tape(x, "?");
        x.ride();
        Check.due("count(5) behind a fault of ride()", 0, x.count(5));
        Check.tape(x, "?");
        x.book(1);
        Check.due("count(5) behind a fault of book()", 0, x.count(5));
        Check.tape(x, "?");
        x.sentence();
        Check.due("count(5) behind a fault of sentence()", 0, x.count(5));
    }

    @Says(of = 4, value = "how many LINES")
    static void rideLines() {
        RideLaws x = new RideLaws();
        Check.due("no line", 0, x.ride());
        Check.due("one line", 1, Check.ride(x, "word a;"));
        Check.due("eighteen lines", 18, Check.ride(x, TEXT));
    }

    @Says(of = 4, value = "-1 less the place of a FAULT: it stays.")
    static void rideStays() {
        RideLaws x = Check.riding(TEXT);
        Check.sentence(x, "up");
        x.ticks(5);
        String before = Check.all(x);
        Check.due("a fault at 0", -1, Check.ride(x, "?"));
        Check.due("a fault at 1", -2, Check.ride(x, " ?"));
        Check.due("a fault behind good lines", -36, Check.ride(x, "ring k 2 1;word o;rider i;seat j k 2;"));
        Check.due("a fault at 900", -901, Check.ride(x, " ".repeat(901)));
        Check.dueText("all", before, Check.all(x));
        Check.due("undo()", 0, x.undo());
        Check.due("now(0)", 0, x.now(0));
    }

    @Says(of = 5, value = "The kind of the FAULT of the latest ride(), book() or sentence()")
    static void faultKinds() {
        RideLaws x = Check.riding(TEXT);
        String[] texts = {"?", "ring k 1 1;", "word k;word k;", "ring k 2 1;ring i 2 1;ring j 2 1;ring h 2 1;"};
        for (int i = 0; i < 4; i++) {
            Check.ride(x, texts[i]);
            Check.due("fault() of a ride", i + 1, x.fault());
        }
        String[] books = {"?", "tick 0;", "z alights;", "tick 1;".repeat(41)};
        for (int i = 0; i < 4; i++) {
            Check.book(x, books[i], i % 2);
            Check.due("fault() of a book", i + 1, x.fault());
        }
        Check.sentence(x, "?");
        Check.due("fault() of a sentence", 1, x.fault());
        Check.sentence(x, "on x");
        Check.due("fault() of a sentence", 3, x.fault());
        Check.sentence(x, "not not not not not not not not up");
        Check.due("fault() of a sentence", 4, x.fault());
        x.ticks(1);
        x.undo();
        x.image(0);
        x.restore(0);
        Check.due("fault() stays", 4, x.fault());
    }

    @Says(of = 5, value = "(a book() of -1000 leaves it)")
    static void faultLeft() {
        RideLaws x = Check.riding(TEXT);
        Check.book(x, "tick 0;", 0);
        x.book(2);
        Check.due("fault()", 2, x.fault());
        x.book(-1);
        Check.due("fault()", 2, x.fault());
        x.book(0);
        x.book(9);
        Check.due("fault()", 0, x.fault());
    }

    @Says(of = 5, value = "0 without one and ahead of any.")
    static void noFault() {
        RideLaws x = new RideLaws();
        Check.due("fault() ahead of any", 0, x.fault());
        x.book(5);
        Check.due("fault() ahead of any", 0, x.fault());
        x.sentence();
        Check.due("fault()", 1, x.fault());
        x.ride();
        Check.due("fault() of a good ride", 0, x.fault());
        x.sentence();
        x.book(0);
        Check.due("fault() of a good book", 0, x.fault());
        x.sentence();
        Check.sentence(x, "up");
        Check.due("fault() of a good sentence", 0, x.fault());
        x.sentence();
        Check.ride(x, TEXT);
        Check.due("a wrong book", 0, Check.book(x, "q alights;", 0));
        Check.due("fault() of a wrong book", 0, x.fault());
    }

    @Says(of = 6, value = "Of a RIDER: 0 the SEAT on which he is (NONE)")
    static void riderSeat() {
        RideLaws x = Check.riding(TEXT);
        int[] want = {0, -1, 2};
        for (int r = 0; r < 3; r++) {
            Check.due("rider(" + r + ", 0)", want[r], x.rider(r, 0));
        }
        x.alight(2);
        x.mount(1, 2);
        Check.due("rider(1, 0)", 2, x.rider(1, 0));
        Check.due("rider(2, 0)", -1, x.rider(2, 0));
    }

    @Says(of = 6, value = "1 how long his ROLL is")
    static void riderRoll() {
        RideLaws x = Check.riding(TEXT);
        Check.due("rider(0, 1)", 2, x.rider(0, 1));
        Check.due("rider(1, 1), empty", 0, x.rider(1, 1));
        for (int i = 0; i < 7; i++) {
            x.learn(1, 2);
        }
        Check.due("rider(1, 1), full", 6, x.rider(1, 1));
    }

    @Says(of = 6, value = "2 the word that he says next (NONE: he has no ROLL)")
    static void riderNext() {
        RideLaws x = Check.riding(TEXT);
        Check.due("rider(0, 2)", 0, x.rider(0, 2));
        Check.due("rider(1, 2)", -1, x.rider(1, 2));
        x.ticks(1);
        Check.due("rider(0, 2)", 1, x.rider(0, 2));
        x.ticks(2);
        Check.due("rider(0, 2)", 0, x.rider(0, 2));
        x.learn(1, 2);
        Check.due("rider(1, 2), off", 2, x.rider(1, 2));
    }

    @Says(of = 6, value = "3 words that he said so far")
    static void riderSaid() {
        RideLaws x = Check.riding(TEXT);
        Check.due("rider(0, 3)", 0, x.rider(0, 3));
        x.ticks(5);
        Check.due("rider(0, 3)", 3, x.rider(0, 3));
        x.whistle();
        x.alight(0);
        Check.due("rider(0, 3) behind the whistle", 3, x.rider(0, 3));
        Check.due("rider(2, 3), mute", 0, x.rider(2, 3));
        x.mount(0, 1);
        x.drawn(9, 4);
        Check.due("words of all", x.now(4), x.rider(0, 3) + x.rider(1, 3) + x.rider(2, 3));
    }

    @Says(of = 6, value = "4 WORDS that he KNOWS, as bits.")
    static void riderKnows() {
        RideLaws x = Check.riding("word a;word b;word c;word d;word e;word f;word g;word h;rider r;says r a;says r h;says r a;");
        Check.due("rider(0, 4)", 129, x.rider(0, 4));
        x.learn(0, 3);
        Check.due("rider(0, 4)", 137, x.rider(0, 4));
        Check.due("rider(1, 4), none", 0, Check.riding("word a;rider q;rider r;says q a;").rider(1, 4));
    }

    @Says(of = 6, value = "NoSuchElementException: no such ones.")
    static void riderThrows() {
        RideLaws x = Check.riding(TEXT);
        for (int far : FAR) {
            Check.dueThrow("rider(" + far + ", 0)", () -> x.rider(far, 0));
            Check.dueThrow("rider(0, " + far + ")", () -> x.rider(0, far));
        }
        Check.dueThrow("rider(3, 0)", () -> x.rider(3, 0));
        Check.dueThrow("rider(0, 5)", () -> x.rider(0, 5));
        Check.dueThrow("rider(3, 5)", () -> x.rider(3, 5));
        Check.dueThrow("rider(0, 0) of no ride", () -> new RideLaws().rider(0, 0));
    }

    @Says(of = 7, value = "The k-th word (from 0) of a RIDER's ROLL")
    static void roll() {
        RideLaws x = Check.riding("word a;word b;word c;word d;word e;word f;rider r;says r f;says r e;says r d;says r c;says r b;says r a;");
        for (int k = 0; k < 6; k++) {
            Check.due("roll(0, " + k + ")", 5 - k, x.roll(0, k));
        }
    }

    @Says(of = 7, value = "NONE: none such, no such one.")
    static void rollNone() {
        RideLaws x = Check.riding(TEXT);
        Check.due("roll(0, 2)", -1, x.roll(0, 2));
        Check.due("roll(1, 0)", -1, x.roll(1, 0));
        Check.due("roll(3, 0)", -1, x.roll(3, 0));
        for (int far : FAR) {
            Check.due("roll(0, " + far + ")", -1, x.roll(0, far));
            Check.due("roll(" + far + ", 0)", -1, x.roll(far, 0));
        }
        RideLaws y = Check.riding("word a;rider r;rider q;" + "says r a;".repeat(6) + "says q a;");
        Check.due("roll(0, 6)", -1, y.roll(0, 6));
        Check.due("roll(0, 7)", -1, y.roll(0, 7));
        x.learn(1, 0);
        x.undo();
        Check.due("roll(1, 0), undone", -1, x.roll(1, 0));
    }

    @Says(of = 8, value = "Of a SEAT: 0 its RING, 1 the step AT which it is, 2 who is on it (NONE).")
    static void seat() {
        RideLaws x = Check.riding(TEXT);
        int[][] want = {{0, 1, 0}, {0, 0, -1}, {1, 2, 2}};
        for (int s = 0; s < 3; s++) {
            for (int what = 0; what < 3; what++) {
                Check.due("seat(" + s + ", " + what + ")", want[s][what], x.seat(s, what));
            }
        }
        x.ticks(1);
        x.alight(0);
        x.mount(0, 1);
        Check.due("seat(0, 1)", 0, x.seat(0, 1));
        Check.due("seat(2, 1)", 0, x.seat(2, 1));
        Check.due("seat(0, 2)", -1, x.seat(0, 2));
        Check.due("seat(1, 2)", 0, x.seat(1, 2));
    }

    @Says(of = 8, value = "NONE, too: no such ones.")
    static void seatNone() {
        RideLaws x = Check.riding(TEXT);
        Check.due("seat(3, 0)", -1, x.seat(3, 0));
        Check.due("seat(0, 3)", -1, x.seat(0, 3));
        for (int far : FAR) {
            Check.due("seat(" + far + ", 0)", -1, x.seat(far, 0));
            Check.due("seat(0, " + far + ")", -1, x.seat(0, far));
        }
        Check.due("seat(0, 0) of no ride", -1, new RideLaws().seat(0, 0));
    }

    @Says(of = 9, value = "Of a LAW: 0, 1 its words, 2 it holds (1, 0), 3 LAWS that clash with it, as bits")
    static void law() {
        RideLaws x = Check.riding(TEXT);
        int[][] want = {{0, 1, 0, 2}, {1, 0, 0, 5}, {2, 2, 0, 2}};
        for (int l = 0; l < 3; l++) {
            for (int what = 0; what < 4; what++) {
                Check.due("law(" + l + ", " + what + ")", want[l][what], x.law(l, what));
            }
        }
        x.ticks(3);
        Check.due("law(0, 2)", 1, x.law(0, 2));
        Check.due("law(1, 2)", 0, x.law(1, 2));
        x.ticks(2);
        Check.due("law(0, 2), it fell", 0, x.law(0, 2));
        Check.due("law(1, 2)", 1, x.law(1, 2));
    }

    @Says(of = 9, value = "4 how often it came to hold so far (also if it did")
    static void lawOften() {
        RideLaws x = Check.riding("ring a 2 2;seat s a 0;word v;rider r s;says r v;law l v v;");
        int[] want = {0, 0, 1, 2, 3};
        for (int i = 0; i < want.length; i++) {
            Check.due("law(0, 4) behind " + i, want[i], x.law(0, 4));
            x.ticks(1);
        }
        RideLaws y = Check.riding(TEXT);
        y.ticks(9);
        Check.due("law(0, 4), it fell and holds", 2, y.law(0, 4));
        Check.due("law(1, 4)", 2, y.law(1, 4));
        Check.due("law(2, 4), never", 0, y.law(2, 4));
    }

    @Says(of = 9, value = "in TICKS DRAWN, too")
    static void lawOftenDrawn() {
        RideLaws x = Check.riding("ring a 2 2;seat s a 0;word v;rider r s;says r v;law l v v;");
        int seed = 0;
        while ((seed * 1103515245 + 12345 >>> 8) % 12 < 3) {
            seed++;
        }
        x.ticks(2);
        x.drawn(1, seed);
        Check.due("law(0, 4)", 2, x.law(0, 4));
        x.odds(0, 30, 1);
        Check.due("law(0, 4), odds are none", 2, x.law(0, 4));
    }

    @Says(of = 9, value = "a WHISTLE leaves it)")
    static void lawOftenWhistle() {
        RideLaws x = Check.riding(TEXT);
        x.ticks(3);
        x.whistle();
        Check.due("law(0, 2)", 0, x.law(0, 2));
        Check.due("law(0, 4)", 1, x.law(0, 4));
        x.ticks(4);
        Check.due("law(0, 4)", 2, x.law(0, 4));
    }

    @Says(of = 9, value = "NONE: no such ones.")
    static void lawNone() {
        RideLaws x = Check.riding(TEXT);
        Check.due("law(3, 0)", -1, x.law(3, 0));
        Check.due("law(0, 5)", -1, x.law(0, 5));
        for (int far : FAR) {
            Check.due("law(" + far + ", 0)", -1, x.law(far, 0));
            Check.due("law(0, " + far + ")", -1, x.law(0, far));
        }
        Check.due("law(0, 0) of no ride", -1, new RideLaws().law(0, 0));
    }

    @Says(of = 10, value = "0 the TICK, 1 the LATEST word")
    static void nowTick() {
        RideLaws x = Check.riding(TEXT);
        dueNow("at first", x, 0, -1);
        x.ticks(1);
        dueNow("behind 1", x, 1, 0);
        x.ticks(2);
        dueNow("behind 3", x, 3, 1);
        x.whistle();
        dueNow("behind the whistle", x, 3, -1);
    }

    @Says(of = 10, value = "2 who said it (NONE each; also if he alighted)")
    static void nowWho() {
        RideLaws x = Check.riding(TEXT);
        Check.due("now(2) at first", -1, x.now(2));
        x.ticks(1);
        Check.due("now(2)", 0, x.now(2));
        x.alight(0);
        Check.due("now(1), he alighted", 0, x.now(1));
        Check.due("now(2), he alighted", 0, x.now(2));
        x.learn(2, 2);
        x.ticks(3);
        Check.due("now(2), another one", 2, x.now(2));
        x.whistle();
        Check.due("now(2) behind the whistle", -1, x.now(2));
    }

    @Says(of = 10, value = "3 LAWS that hold, as bits, 4 words said so far")
    static void nowLaws() {
        RideLaws x = Check.riding(TEXT);
        int[] laws = {0, 0, 0, 1, 1, 2, 2, 1};
        for (int i = 0; i < laws.length; i++) {
            Check.due("now(3) behind " + i, laws[i], x.now(3));
            Check.due("now(4) behind " + i, (i + 1) / 2, x.now(4));
            x.ticks(1);
        }
        x.whistle();
        Check.due("now(3) behind the whistle", 0, x.now(3));
        Check.due("now(4) behind the whistle", 4, x.now(4));
    }

    @Says(of = 10, value = "5 SEATS at the BOX, 6 on which there is somebody, as bits each")
    static void nowSeats() {
        RideLaws x = Check.riding("ring x 8 1;ring y 2 1;seat a y 0;seat b x 1;seat c x 2;seat d x 3;seat e x 4;seat f x 5;seat g x 6;seat h x 0;"
                + "rider r h;rider q;");
        Check.due("now(5)", 129, x.now(5));
        Check.due("now(6)", 128, x.now(6));
        x.mount(1, 0);
        Check.due("now(6)", 129, x.now(6));
        x.ticks(1);
        Check.due("now(5)", 0, x.now(5));
        x.ticks(1);
        Check.due("now(5)", 65, x.now(5));
        x.alight(0);
        x.alight(1);
        Check.due("now(6)", 0, x.now(6));
    }

    @Says(of = 10, value = "7 whistles so far.")
    static void nowWhistles() {
        RideLaws x = Check.riding(TEXT);
        x.whistle();
        Check.due("now(7), it could not be", 0, x.now(7));
        for (int i = 1; i <= 3; i++) {
            x.ticks(2);
            x.whistle();
            Check.due("now(7)", i, x.now(7));
        }
        x.undo();
        Check.due("now(7), undone", 2, x.now(7));
        Check.book(x, "whistle;", 1);
        Check.due("now(7), by a book", 3, x.now(7));
    }

    @Says(of = 10, value = "NONE for another what.")
    static void nowNone() {
        RideLaws x = Check.riding(TEXT);
        for (int far : FAR) {
            Check.due("now(" + far + ")", -1, x.now(far));
        }
        Check.due("now(9)", -1, x.now(9));
    }

    @Says(of = 39, value = "0 RINGS, 1 SEATS, 2 WORDS, 3 RIDERS, 4 LAWS")
    static void count() {
        RideLaws x = Check.riding("ring a 4 1;seat s a 0;seat t a 1;word v;word w;word z;rider r;rider q;rider p;rider o;"
                + "law l v w;law m w v;law n z z;law k z v;law j v z;");
        for (int what = 0; what < 5; what++) {
            Check.due("count(" + what + ")", what + 1, x.count(what));
        }
        x = Check.riding("rider r;ring a 2 1;");
        int[] want = {1, 0, 0, 1, 0};
        for (int what = 0; what < 5; what++) {
            Check.due("count(" + what + ")", want[what], x.count(what));
        }
    }

    @Says(of = 39, value = "5 bytes of the tape.")
    static void countBytes() {
        RideLaws x = new RideLaws();
        x.feed(0, 0, 0, 0, 0);
        Check.due("count(5)", 20, x.count(5));
        x.end(13);
        Check.due("count(5)", 13, x.count(5));
        x.ride();
        Check.due("count(5)", 0, x.count(5));
    }

    @Says(of = 39, value = "NONE for another what.")
    static void countNone() {
        RideLaws x = Check.riding(TEXT);
        Check.due("count(6)", -1, x.count(6));
        for (int far : FAR) {
            Check.due("count(" + far + ")", -1, x.count(far));
        }
    }
}
