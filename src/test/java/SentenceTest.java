/** Promises 35 and 36: sentence, said. */
public final class SentenceTest {
    private static final String TEXT = "ring a 2 1;seat s a 1;seat t a 0;word v;word w;rider r s;rider q;rider p t;rider o;"
            + "says r v;says r w;says r v;says o w;law l v w;";

    public static void main(String[] args) {
        ones();
        joined();
        counts();
        whom();
        faults();
        manyOnes();
        within();
        lengths();
        stays();
        Check.close();
    }

    private static void ones() {
        RideLaws x = Check.riding(TEXT);
        Check.fits(x, "up", 5);
        Check.fits(x, "mute", 6);
        Check.fits(x, "latest", 0);
        Check.fits(x, "on s", 1);
        Check.fits(x, "on t", 4);
        Check.fits(x, "knows v", 1);
        Check.fits(x, "knows w", 9);
        Check.fits(x, "said = 0", 15);
        Check.fits(x, "roll > 1", 1);
        Check.fits(x, "roll < 1", 6);
        Check.fits(x, "roll = 1", 8);
        Check.fits(x, "number < 2", 3);
        Check.fits(x, "number=2", 4);
        Check.fits(x, "number>2", 8);
        Check.fits(x, "number > 999", 0);
        Check.fits(x, "not number = 000", 14);
        x.ticks(1);
        Check.fits(x, "latest", 1);
        Check.fits(x, "said = 1", 1);
        Check.fits(x, "said > 0", 1);
        Check.fits(x, "said < 1", 14);
        x.ticks(2);
        Check.fits(x, "said=2", 1);
        x.alight(0);
        Check.fits(x, "latest and not up", 1);
        x.whistle();
        Check.fits(x, "latest", 0);
        Check.fits(x, "said=2", 1);
    }

    private static void joined() {
        RideLaws x = Check.riding(TEXT);
        Check.fits(x, "up and mute", 4);
        Check.fits(x, "up or mute", 7);
        Check.fits(x, "not up and mute", 2);
        Check.fits(x, "not (up and mute)", 11);
        Check.fits(x, "number=0 or number=1 and number=2", 1);
        Check.fits(x, "(number=0 or number=1) and number=2", 0);
        Check.fits(x, "number=1 and number=2 or number=0", 1);
        Check.fits(x, "number=1 and(number=2 or number=1)", 2);
        Check.fits(x, "not not up", 5);
        Check.fits(x, "not not not up", 10);
        Check.fits(x, "((up))or(mute and not(on t))", 7);
        Check.fits(x, "up and not mute or not up and mute or number=3 and roll=1", 11);
        Check.fits(x, "not up or not mute", 11);
        Check.fits(x, "\nup\n", 5);
    }

    private static void counts() {
        RideLaws x = Check.riding(TEXT);
        Check.due("up", 1, Check.sentence(x, "up"));
        Check.due("not up", 2, Check.sentence(x, "not up"));
        Check.due("(up)", 2, Check.sentence(x, "(up)"));
        Check.due("not (up and mute)", 4, Check.sentence(x, "not (up and mute)"));
        Check.due("up or mute and latest", 3, Check.sentence(x, "up or mute and latest"));
        Check.due("roll = 1", 1, Check.sentence(x, "roll = 1"));
    }

    private static void whom() {
        RideLaws x = Check.riding(TEXT);
        Check.due("said(-1) without a sentence", -1, x.said(-1));
        Check.due("said(0) without a sentence", -1, x.said(0));
        Check.sentence(x, "up");
        Check.due("said(-1)", 2, x.said(-1));
        Check.due("said(0)", 0, x.said(0));
        Check.due("said(1)", 2, x.said(1));
        Check.due("said(2)", -1, x.said(2));
        Check.due("said(-2)", -1, x.said(-2));
        Check.due("said(min)", -1, x.said(Integer.MIN_VALUE));
        Check.due("said(max)", -1, x.said(Integer.MAX_VALUE));
        x.mount(1, 0);
        x.alight(0);
        x.mount(1, 0);
        Check.due("said(0), another one", 1, x.said(0));
        Check.due("ride()", 1, Check.ride(x, "word v;"));
        Check.due("said(-1) of a new ride", -1, x.said(-1));
        Check.due("sentence() without riders", 1, Check.sentence(x, "up"));
        Check.due("said(-1) without riders", 0, x.said(-1));
        Check.due("said(0) without riders", -1, x.said(0));
    }

    private static void faulty(String marked, int kind) {
        Check.faultySentence(TEXT, marked, kind);
    }

    private static void faults() {
        faulty("|", 1);
        faulty("  |", 1);
        faulty("|;", 1);
        faulty("up|;", 1);
        faulty("up |.", 1);
        faulty("|or", 1);
        faulty("|r", 1);
        faulty("|5", 1);
        faulty("|)", 1);
        faulty("(|)", 1);
        faulty("up |up", 1);
        faulty("up |)", 1);
        faulty("(up|", 1);
        faulty("(up |mute)", 1);
        faulty("up and|", 1);
        faulty("up and |and up", 1);
        faulty("up or |or", 1);
        faulty("not|", 1);
        faulty("not |and", 1);
        faulty("on |", 1);
        faulty("on |3", 1);
        faulty("on |up", 1);
        faulty("knows |(v)", 1);
        faulty("said |1", 1);
        faulty("said =|", 1);
        faulty("said = |v", 1);
        faulty("said = |1000", 1);
        faulty("said |(1)", 1);
        faulty("roll < |>1", 1);
        faulty("number = 1 |2", 1);
        faulty("|tick", 1);
        faulty("|Up", 1);
        faulty("|upp", 1);
        faulty("|up1", 1);
        faulty("on |u", 3);
        faulty("on |v", 3);
        faulty("on |a", 3);
        faulty("up and on |r", 3);
        faulty("knows |s", 3);
        faulty("knows |l", 3);
        faulty("knows |z", 3);
    }

    private static void manyOnes() {
        RideLaws x = Check.riding(TEXT);
        Check.due("20 ones", 20, Check.sentence(x, "up" + " or up".repeat(19)));
        Check.fits(x, "mute and number=1" + " or up and mute".repeat(9), 6);
        faulty("up" + " or up".repeat(19) + " or |up", 4);
        faulty("up" + " or up".repeat(19) + " or |not up", 4);
        faulty("up" + " or up".repeat(19) + " or |(up)", 4);
        faulty("up" + " or up".repeat(19) + " or |or", 1);
        faulty("up" + " or up".repeat(19) + " or |on z", 4);
        Check.due("nots and brackets, too", 20, Check.sentence(x, "not up" + " or (up)".repeat(9)));
        faulty("not up" + " and (up)".repeat(9) + " and |up", 4);
        faulty("up" + " or up".repeat(18) + " or not |up", 4);
    }

    private static void within() {
        RideLaws x = Check.riding(TEXT);
        Check.fits(x, "not not not not not not not up", 10);
        Check.fits(x, "(((((((up)))))))", 5);
        Check.fits(x, "not(not(not(not up)))", 5);
        faulty("not not not not not not not not |up", 4);
        faulty("((((((((|up))))))))", 4);
        faulty("(((((((up and mute or (|up))))))))", 4);
        faulty("not (not (not (not (|up))))", 4);
        faulty("not (not (not (not (|or))))", 1);
        Check.fits(x, "(((((((up)))))))and(((((((mute)))))))", 4);
    }

    private static void lengths() {
        RideLaws x = Check.riding(TEXT);
        Check.due("200 bytes", 1, Check.sentence(x, "up" + " ".repeat(198)));
        Check.due("201 bytes", -201, Check.sentence(x, "up" + " ".repeat(199)));
        Check.due("fault()", 1, x.fault());
        Check.due("a fault ahead", -200, Check.sentence(x, "up" + " ".repeat(197) + "mute"));
        Check.due("on a name beyond", -200, Check.sentence(x, "on" + " ".repeat(197) + "xyz"));
        Check.due("fault()", 3, x.fault());
        Check.due("on a name at 200", -201, Check.sentence(x, "on" + " ".repeat(198) + "xyz"));
        Check.due("fault()", 1, x.fault());
        Check.due("a good token beyond", -201, Check.sentence(x, "up and" + " ".repeat(193) + "mute"));
        Check.due("fault()", 1, x.fault());
    }

    private static void stays() {
        RideLaws x = Check.riding(TEXT);
        Check.sentence(x, "mute");
        x.ticks(3);
        x.undo();
        Check.book(x, "tick 1;", 1);
        Check.ride(x, "oops");
        Check.due("said(-1)", 2, x.said(-1));
    }
}
