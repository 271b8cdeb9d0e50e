/** Promises 33 and 34: book, told. */
public final class BookTest {
    private static final String TEXT = "ring a 2 1;seat s a 1;seat t a 0;word v;word w;rider r s;rider q;"
            + "says r v;says r w;law l v w;law m w v;";

    public static void main(String[] args) {
        judged();
        lived();
        wrongOnes();
        fewerTicks();
        faults();
        manyLines();
        lengths();
        anotherLives();
        toldStays();
        Check.close();
    }

    private static void dueTold(RideLaws x, int why, int lines, int tick, int holding) {
        Check.due("told(0)", why, x.told(0));
        Check.due("told(1)", lines, x.told(1));
        Check.due("told(2)", tick, x.told(2));
        Check.due("told(3)", holding, x.told(3));
    }

    private static void judged() {
        RideLaws x = Check.riding(TEXT);
        for (int what = -1; what < 5; what++) {
            Check.due("told(" + what + ") ahead of any", -1, x.told(what));
        }
        Check.due("book(0)", -1, Check.book(x, "tick 3;q mounts t; r alights ; q learns w;tick 60;whistle;q alights;", 0));
        dueTold(x, 0, 7, 63, 0);
        Check.due("told(4)", -1, x.told(4));
        Check.due("told(-1)", -1, x.told(-1));
        Check.due("now(0) stays", 0, x.now(0));
        Check.due("rider(0, 0) stays", 0, x.rider(0, 0));
        Check.due("rider(1, 1) stays", 0, x.rider(1, 1));
        Check.due("count(5)", 0, x.count(5));
        Check.due("undo()", -1, x.undo());
        Check.due("book(0) with a law", -1, Check.book(x, "tick 3;", 0));
        dueTold(x, 0, 1, 3, 1);
        Check.due("book(0) of nothing", -1, x.book(0));
        dueTold(x, 0, 0, 0, 0);
    }

    private static void lived() {
        RideLaws x = Check.riding(TEXT);
        Check.due("book(1)", -1, Check.book(x, "tick 3;q mounts t;r alights;q learns w;", 1));
        dueTold(x, 0, 4, 3, 1);
        Check.due("now(0)", 3, x.now(0));
        Check.due("rider(0, 0)", -1, x.rider(0, 0));
        Check.due("rider(1, 0)", 1, x.rider(1, 0));
        Check.due("roll(1, 0)", 1, x.roll(1, 0));
        Check.due("law(0, 4)", 1, x.law(0, 4));
        Check.due("book(1), wrong in the third line", 2, Check.book(x, "tick 1;whistle;q mounts s;tick 9;", 1));
        dueTold(x, 1, 2, 4, 0);
        Check.due("now(0) as far as it is not wrong", 4, x.now(0));
        Check.due("now(7)", 1, x.now(7));
        Check.due("undo() of a book", 1, x.undo());
        Check.due("now(0)", 3, x.now(0));
        Check.due("now(3)", 1, x.now(3));
        Check.due("book(1), wrong at once", 0, Check.book(x, "q mounts s;tick 1;", 1));
        Check.due("undo() of the first book", 0, x.undo());
        Check.due("now(0)", 0, x.now(0));
        Check.due("rider(1, 1)", 0, x.rider(1, 1));
        Check.due("undo()", -1, x.undo());
    }

    private static void wrongOnes() {
        RideLaws x = Check.riding(TEXT);
        dueWrong(x, "r mounts t;", 0, 1);
        dueWrong(x, "r mounts s;", 0, 1);
        dueWrong(x, "q mounts s;", 0, 2);
        dueWrong(x, "q alights;", 0, 11);
        dueWrong(x, "r alights;r alights;", 1, 11);
        dueWrong(x, "q learns v;q learns v;q learns v;q learns v;q learns v;q learns v;q learns v;", 6, 21);
        dueWrong(x, "whistle;", 0, 31);
        dueWrong(x, "tick 1;whistle;whistle;", 2, 31);
        dueWrong(x, "q mounts t;tick 1;q alights;q mounts s;r alights;", 3, 2);
    }

    private static void dueWrong(RideLaws x, String text, int line, int why) {
        Check.due("book(0) of " + text, line, Check.book(x, text, 0));
        Check.due("told(0) of " + text, why, x.told(0));
        Check.due("told(1) of " + text, line, x.told(1));
        Check.due("fault() of " + text, 0, x.fault());
    }

    private static void fewerTicks() {
        RideLaws x = Check.riding(TEXT);
        for (int i = 0; i < 16; i++) {
            x.ticks(60);
        }
        dueWrong(x, "tick 41;", 0, 41);
        Check.due("told(2)", 960, x.told(2));
        dueWrong(x, "tick 40;tick 1;", 1, 41);
        Check.due("told(2)", 1000, x.told(2));
        Check.due("book(1)", 1, Check.book(x, "tick 39;tick 2;tick 1;", 1));
        Check.due("now(0)", 999, x.now(0));
        Check.due("book(1)", -1, Check.book(x, "tick 1;r alights;", 1));
        Check.due("now(0)", 1000, x.now(0));
    }

    private static void faulty(String marked, int kind) {
        Check.faultyBook(TEXT, marked, kind);
    }

    private static void faults() {
        faulty("|;", 1);
        faulty("|7;", 1);
        faulty("|ring;", 1);
        faulty("|mounts s;", 1);
        faulty("|X;", 1);
        faulty("tick 1;|ab1;", 1);
        faulty("whistle|", 1);
        faulty("whistle |r;", 1);
        faulty("tick |;", 1);
        faulty("tick |r;", 1);
        faulty("tick |1000;", 1);
        faulty("tick 1 |1;", 1);
        faulty("tick 1; r|", 1);
        faulty("r |;", 1);
        faulty("r |s;", 1);
        faulty("r |says v;", 1);
        faulty("r mounts |;", 1);
        faulty("r mounts |1;", 1);
        faulty("r mounts |up;", 1);
        faulty("r alights |s;", 1);
        faulty("r learns |;", 1);
        faulty("r learns v|", 1);
        faulty("tick |0;", 2);
        faulty("tick |61;", 2);
        faulty("tick 60;tick |999;", 2);
        faulty("|x alights;", 3);
        faulty("|s alights;", 3);
        faulty("|v alights;", 3);
        faulty("r mounts |u;", 3);
        faulty("r mounts |v;", 3);
        faulty("r mounts |a;", 3);
        faulty("r mounts |q;", 3);
        faulty("r learns |s;", 3);
        faulty("r learns |z;", 3);
        faulty("r learns |l;", 3);
    }

    private static void manyLines() {
        RideLaws x = Check.riding(TEXT);
        Check.due("40 lines", -1, Check.book(x, "tick 1;".repeat(40), 0));
        Check.due("told(1) of 40 lines", 40, x.told(1));
        faulty("tick 1;".repeat(40) + "|tick 1;", 4);
        faulty("tick 1;".repeat(40) + "|tick 99", 4);
        faulty("tick 1;".repeat(40) + "|whistle;", 4);
        faulty("tick 1;".repeat(40) + " |r alights;", 4);
        faulty("tick 1;".repeat(40) + "|s alights;", 3);
        faulty("tick 1;".repeat(40) + "|;", 1);
        faulty("tick 1;".repeat(40) + "|ring;", 1);
    }

    private static void lengths() {
        RideLaws x = Check.riding(TEXT);
        Check.due("400 bytes", -1, Check.book(x, "tick 1;" + " ".repeat(393), 0));
        Check.due("401 bytes", -402, Check.book(x, "tick 1;" + " ".repeat(394), 0));
        Check.due("fault()", 1, x.fault());
        Check.due("a name that goes beyond", -401, Check.book(x, "tick 1;" + " ".repeat(392) + "xyz;", 0));
        Check.due("fault()", 3, x.fault());
        Check.due("a name at 400", -402, Check.book(x, "tick 1;" + " ".repeat(393) + "xyz;", 0));
        Check.due("fault()", 1, x.fault());
        Check.due("whistle that goes beyond", -402, Check.book(x, "tick 1;" + " ".repeat(392) + "whistle;", 0));
        Check.due("fault()", 1, x.fault());
    }

    private static void anotherLives() {
        RideLaws x = Check.riding(TEXT);
        Check.tape(x, "tick 5;");
        int[] lives = {2, -1, Integer.MAX_VALUE, Integer.MIN_VALUE};
        for (int n : lives) {
            Check.due("book(" + n + ")", -1000, x.book(n));
        }
        Check.due("count(5) stays", 7, x.count(5));
        Check.due("told(0)", -1, x.told(0));
        Check.due("book(1)", -1, x.book(1));
        Check.due("now(0)", 5, x.now(0));
    }

    private static void toldStays() {
        RideLaws x = Check.riding(TEXT);
        Check.due("book(1)", 1, Check.book(x, "tick 3;q alights;", 1));
        x.undo();
        x.ticks(9);
        x.image(0);
        x.restore(0);
        Check.ride(x, "word v;");
        x.book(7);
        dueTold(x, 11, 1, 3, 1);
    }
}
