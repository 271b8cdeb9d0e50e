/** Terms of a book, and promises 33 and 34: book, told. */
public final class EdgeBookTest {
    // r says v behind 1 tick, w behind 3 (l holds then), v behind 5 (m holds, too, then), and so on.
    private static final String TEXT = "ring a 2 1;seat s a 1;seat t a 0;word v;word w;rider r s;rider q;"
            + "says r v;says r w;law l v w;law m w v;";

    public static void main(String[] args) {
        Edges.run(EdgeBookTest.class);
    }

    private static void dueTold(RideLaws x, int why, int lines, int tick, int holding) {
        Check.due("told(0)", why, x.told(0));
        Check.due("told(1)", lines, x.told(1));
        Check.due("told(2)", tick, x.told(2));
        Check.due("told(3)", holding, x.told(3));
    }

    @Says("A BOOK is a text of at most 400 bytes")
    static void bytes() {
        RideLaws x = Check.riding(TEXT);
        Check.due("400 bytes with the line first", -1, Check.book(x, "tick 1;" + " ".repeat(393), 0));
        Check.due("400 bytes with the line last", -1, Check.book(x, " ".repeat(393) + "tick 9;", 0));
        Check.due("told(2)", 9, x.told(2));
        Check.due("401 bytes with the line first", -402, Check.book(x, "tick 1;" + " ".repeat(394), 0));
        Check.due("fault()", 1, x.fault());
        Check.due("401 bytes with the line last", -402, Check.book(x, " ".repeat(394) + "tick 1;", 0));
        Check.due("fault()", 1, x.fault());
        Check.due("940 bytes", -402, Check.book(x, " ".repeat(940), 0));
        Check.due("told(2) stays", 9, x.told(2));
    }

    @Says("{ LINE ; }")
    static void lines() {
        RideLaws x = Check.riding(TEXT);
        Check.due("no line", -1, x.book(1));
        dueTold(x, 0, 0, 0, 0);
        Check.due("blanks alone", -1, Check.book(x, "\n  ", 1));
        Check.due("undo() of no line", -1, x.undo());
        Check.faultyBook(TEXT, "tick 1|", 1);
        Check.faultyBook(TEXT, "tick 1;|;", 1);
        Check.faultyBook(TEXT, "|;tick 1;", 1);
        Check.faultyBook(TEXT, "tick 1 |tick 1;", 1);
    }

    @Says("40 at most")
    static void fortyLines() {
        RideLaws x = Check.riding(TEXT);
        Check.due("39 lines", -1, Check.book(x, "tick 1;".repeat(39), 0));
        Check.due("told(1)", 39, x.told(1));
        Check.due("40 lines", -1, Check.book(x, "tick 1;".repeat(40), 1));
        Check.due("told(1)", 40, x.told(1));
        Check.due("now(0)", 40, x.now(0));
        Check.due("40 lines, the last is wrong", 39, Check.book(x, "tick 1;".repeat(39) + "q alights;", 0));
        Check.faultyBook(TEXT, "tick 1;".repeat(40) + "|tick 1;", 4);
        Check.due("40 lines with blanks behind", -1, Check.book(x, "tick 1;".repeat(40) + " \n ", 0));
    }

    @Says("RIDER ( 'mounts' SEAT | 'alights' | 'learns' WORD ) | 'whistle' | 'tick' N")
    static void eachLine() {
        RideLaws x = Check.riding(TEXT);
        Check.due("q mounts", -1, Check.book(x, "q mounts t;", 1));
        Check.due("rider(1, 0)", 1, x.rider(1, 0));
        Check.due("r alights", -1, Check.book(x, "r alights;", 1));
        Check.due("rider(0, 0)", -1, x.rider(0, 0));
        Check.due("q learns", -1, Check.book(x, "q learns w;", 1));
        Check.due("roll(1, 0)", 1, x.roll(1, 0));
        Check.due("tick", -1, Check.book(x, "tick 2;", 1));
        Check.due("now(0)", 2, x.now(0));
        Check.due("now(1)", 1, x.now(1));
        Check.due("whistle", -1, Check.book(x, "whistle;", 1));
        Check.due("now(7)", 1, x.now(7));
        Check.due("now(1)", -1, x.now(1));
        String[] bad = {"r |;", "r |whistle;", "r |tick 1;", "r |r alights;", "r mounts |;", "r mounts |mounts;", "r alights |s;",
            "r learns |;", "whistle |whistle;", "tick |;", "tick 1 |2;", "|1;", "|mounts s;", "r mounts s |t;", "tick |r;"};
        for (String marked : bad) {
            Check.faultyBook(TEXT, marked, 1);
        }
    }

    @Says("'tick' N (1 to 60)")
    static void tickNumbers() {
        RideLaws x = Check.riding(TEXT);
        Check.due("tick 1", -1, Check.book(x, "tick 1;", 0));
        Check.due("told(2)", 1, x.told(2));
        Check.due("tick 60", -1, Check.book(x, "tick 60;", 0));
        Check.due("told(2)", 60, x.told(2));
        Check.due("tick 060", -1, Check.book(x, "tick 060;", 0));
        Check.faultyBook(TEXT, "tick |0;", 2);
        Check.faultyBook(TEXT, "tick |61;", 2);
        Check.faultyBook(TEXT, "tick |999;", 2);
    }

    @Says(of = 33, value = "The tape is a BOOK: it is judged, all staying as it is (lives 0)")
    static void judged() {
        RideLaws x = Check.riding(TEXT);
        x.ticks(3);
        Check.sentence(x, "up");
        String before = Check.all(x);
        Check.due("book(0)", -1, Check.book(x, "q mounts t;r alights;q learns w;tick 9;whistle;tick 3;r mounts s;", 0));
        dueTold(x, 0, 7, 15, 0);
        Check.dueText("all that is so", before, Check.all(x));
        Check.due("the tape is empty", 0, x.count(5));
        Check.due("undo() of the ticks", 0, x.undo());
        Check.due("now(0)", 0, x.now(0));
    }

    @Says(of = 33, value = "or lived as far as it is not WRONG (1)")
    static void lived() {
        RideLaws x = Check.riding(TEXT);
        RideLaws y = Check.riding(TEXT);
        y.ticks(3);
        y.learn(1, 0);
        Check.due("book(1), wrong in its third line", 2, Check.book(x, "tick 3;q learns v;q mounts s;q mounts t;tick 5;", 1));
        Check.dueText("all that is so", Check.all(y), Check.all(x));
        Check.due("undo()", 0, x.undo());
        Check.due("now(0)", 0, x.now(0));
        Check.due("rider(1, 1)", 0, x.rider(1, 1));
    }

    /** The line that is wrong changes nothing, whatever it wants: not even in part. */
    @Says(of = 33, value = "as far as it is not WRONG")
    static void wrongLineChangesNothing() {
        String[] wrong = {"q mounts s;", "r mounts t;", "q alights;", "r learns v;", "whistle;"};
        for (String line : wrong) {
            RideLaws x = Check.riding(TEXT + "says r v;says r v;says r v;");
            RideLaws y = Check.riding(TEXT + "says r v;says r v;says r v;");
            y.learn(0, 0);
            Check.due("book(1) with " + line, 1, Check.book(x, "r learns v;" + line + "tick 1;", 1));
            Check.dueText("all behind " + line, Check.all(y), Check.all(x));
        }
        RideLaws x = Check.riding(TEXT);
        Check.toLastTick(x);
        x.undo();
        Check.due("now(0)", 960, x.now(0));
        Check.due("tick 41 of 40", 1, Check.book(x, "q mounts t;tick 41;", 1));
        Check.due("no tick of it went by", 960, x.now(0));
        Check.due("seat(0, 1)", 1, x.seat(0, 1));
    }

    @Says(of = 33, value = "the LINE that is WRONG")
    static void wrongLine() {
        RideLaws x = Check.riding(TEXT);
        Check.due("the first", 0, Check.book(x, "q alights;tick 1;", 0));
        Check.due("the second", 1, Check.book(x, "tick 1;q alights;q alights;", 0));
        Check.due("the first of two", 0, Check.book(x, "q alights;r mounts s;", 0));
        Check.due("the fortieth", 39, Check.book(x, "tick 1;".repeat(39) + "q alights;", 1));
    }

    @Says(of = 33, value = "NONE: none")
    static void noneWrong() {
        RideLaws x = Check.riding(TEXT);
        Check.due("book(0)", -1, Check.book(x, "tick 1;", 0));
        Check.due("book(1)", -1, Check.book(x, "tick 1;", 1));
        Check.due("book(0) of nothing", -1, x.book(0));
        Check.due("book(1) of nothing", -1, new RideLaws().book(1));
    }

    @Says(of = 33, value = "-2 less the place of a FAULT")
    static void faultyPlace() {
        RideLaws x = Check.riding(TEXT);
        Check.due("a fault at 0", -2, Check.book(x, "?", 0));
        Check.due("a fault at 0", -2, Check.book(x, "x alights;", 1));
        Check.due("a fault at 1", -3, Check.book(x, " ?", 1));
        Check.due("a fault at 400", -402, Check.book(x, " ".repeat(401), 0));
        Check.due("a fault behind good lines", -14, Check.book(x, "tick 5;tick 61;", 1));
        Check.due("none of it is lived", 0, x.now(0));
        Check.due("a fault behind a wrong line", -17, Check.book(x, "q alights;tick 0;", 1));
        Check.due("count(5)", 0, x.count(5));
    }

    @Says(of = 33, value = "-1000: another lives (the tape stays)")
    static void anotherLives() {
        RideLaws x = Check.riding(TEXT);
        Check.tape(x, "tick 5;");
        int[] others = {2, -1, 3, 10, Integer.MAX_VALUE, Integer.MIN_VALUE};
        for (int lives : others) {
            Check.due("book(" + lives + ")", -1000, x.book(lives));
            Check.due("count(5)", 7, x.count(5));
        }
        Check.due("now(0)", 0, x.now(0));
        Check.due("book(1) of that tape", -1, x.book(1));
        Check.due("now(0)", 5, x.now(0));
        Check.tape(x, "?");
        Check.due("book(2) of a tape with a fault", -1000, x.book(2));
    }

    @Says(of = 34, value = "Of the latest book() that had no FAULT (and was not -1000)")
    static void latestGoodBook() {
        RideLaws x = Check.riding(TEXT);
        Check.book(x, "tick 3;q alights;", 1);
        dueTold(x, 11, 1, 3, 1);
        Check.due("a fault", -2, Check.book(x, "?", 1));
        dueTold(x, 11, 1, 3, 1);
        Check.due("another lives", -1000, x.book(2));
        dueTold(x, 11, 1, 3, 1);
        x.undo();
        x.ticks(60);
        x.whistle();
        dueTold(x, 11, 1, 3, 1);
        x.ride();
        dueTold(x, 11, 1, 3, 1);
        x.book(0);
        dueTold(x, 0, 0, 0, 0);
    }

    @Says(of = 34, value = "0 why it was WRONG (0: it was not")
    static void notWrong() {
        RideLaws x = Check.riding(TEXT);
        Check.book(x, "q alights;", 0);
        Check.due("told(0) of a wrong one", 11, x.told(0));
        Check.book(x, "tick 1;", 0);
        Check.due("told(0) of a good one", 0, x.told(0));
    }

    private static void dueWhy(RideLaws x, String text, int why) {
        Check.book(x, text, 0);
        Check.due("told(0) of " + text, why, x.told(0));
        Check.book(x, text, 1);
        Check.due("told(0) of " + text + " lived", why, x.told(0));
        x.undo();
    }

    @Says(of = 34, value = "1, 2 as for mounting")
    static void whyMounting() {
        RideLaws x = Check.riding(TEXT);
        dueWhy(x, "tick 1;r mounts t;", 1);
        dueWhy(x, "tick 1;r mounts s;", 1);
        dueWhy(x, "q mounts t;q mounts s;", 1);
        dueWhy(x, "tick 1;q mounts s;", 2);
    }

    @Says(of = 34, value = "11 alighting")
    static void whyAlighting() {
        RideLaws x = Check.riding(TEXT);
        dueWhy(x, "tick 1;q alights;", 11);
        dueWhy(x, "r alights;r alights;", 11);
    }

    @Says(of = 34, value = "21 learning")
    static void whyLearning() {
        RideLaws x = Check.riding(TEXT);
        dueWhy(x, "q learns v;".repeat(6), 0);
        dueWhy(x, "q learns v;".repeat(7), 21);
        dueWhy(x, "r learns v;".repeat(5), 21);
    }

    @Says(of = 34, value = "31 the whistle")
    static void whyWhistle() {
        RideLaws x = Check.riding(TEXT);
        dueWhy(x, "q mounts t;whistle;", 31);
        dueWhy(x, "tick 1;whistle;", 0);
        dueWhy(x, "tick 1;whistle;whistle;", 31);
    }

    @Says(of = 34, value = "41: fewer TICKS are left")
    static void whyTicks() {
        RideLaws x = Check.riding(TEXT);
        Check.toLastTick(x);
        Check.book(x, "tick 1;", 1);
        dueTold(x, 41, 0, 1000, 3);
        x.undo();
        Check.book(x, "tick 41;", 0);
        dueTold(x, 41, 0, 960, 3);
        Check.book(x, "tick 40;", 0);
        dueTold(x, 0, 1, 1000, 3);
        Check.book(x, "tick 40;tick 1;", 0);
        dueTold(x, 41, 1, 1000, 3);
        Check.book(x, "tick 39;tick 2;", 0);
        dueTold(x, 41, 1, 999, 3);
    }

    @Says(of = 34, value = "1 LINES that are not")
    static void linesThatAreNot() {
        RideLaws x = Check.riding(TEXT);
        String[] texts = {"", "tick 1;", "q alights;", "tick 1;q alights;tick 1;tick 1;", "tick 1;tick 1;q alights;q alights;"};
        int[] want = {0, 1, 0, 1, 2};
        for (int i = 0; i < texts.length; i++) {
            Check.book(x, texts[i], 0);
            Check.due("told(1) of " + texts[i], want[i], x.told(1));
        }
    }

    @Says(of = 34, value = "2 the TICK then")
    static void tickThen() {
        RideLaws x = Check.riding(TEXT);
        x.ticks(2);
        Check.book(x, "tick 5;q learns v;tick 7;", 0);
        Check.due("told(2) of a judged one", 14, x.told(2));
        Check.book(x, "tick 5;q alights;tick 7;", 1);
        Check.due("told(2) of a wrong one", 7, x.told(2));
        x.ticks(9);
        Check.due("told(2) stays", 7, x.told(2));
    }

    @Says(of = 34, value = "3 LAWS that hold then, as bits")
    static void lawsThen() {
        RideLaws x = Check.riding(TEXT);
        int[] ticks = {1, 2, 3, 4, 5};
        int[] want = {0, 0, 1, 1, 3};
        for (int i = 0; i < ticks.length; i++) {
            Check.book(x, "tick " + ticks[i] + ";", 0);
            Check.due("told(3) behind " + ticks[i], want[i], x.told(3));
        }
        Check.book(x, "tick 5;whistle;", 0);
        Check.due("told(3) behind the whistle", 0, x.told(3));
        Check.due("now(3) stays", 0, x.now(3));
    }

    @Says(of = 34, value = "NONE: another what, or ahead of any")
    static void anotherWhat() {
        RideLaws x = Check.riding(TEXT);
        for (int what = -1; what <= 4; what++) {
            Check.due("told(" + what + ") ahead of any", -1, x.told(what));
        }
        Check.book(x, "?", 0);
        x.book(2);
        for (int what = 0; what <= 3; what++) {
            Check.due("told(" + what + ") ahead of a good one", -1, x.told(what));
        }
        Check.book(x, "tick 3;", 0);
        int[] others = {-1, 4, 5, Integer.MAX_VALUE, Integer.MIN_VALUE};
        for (int what : others) {
            Check.due("told(" + what + ")", -1, x.told(what));
        }
    }
}
