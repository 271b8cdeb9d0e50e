/** Terms of a sentence, and promises 35 and 36: sentence, said. */
public final class EdgeSentenceTest {
    // r (0) is on s with a roll, q (1) is off and mute, p (2) is on t and mute, o (3) is off with a roll.
    private static final String TEXT = "ring a 2 1;seat s a 1;seat t a 0;"
            + "word v;word w;rider r s;rider q;rider p t;rider o;says r v;says r w;says r v;says o w;law l v w;";
    private static final String SIX = "ring a 9 1;seat s a 1;word v;rider aa;rider bb;rider cc;rider dd;rider ee;rider ff s;says ff v;";

    public static void main(String[] args) {
        Edges.run(EdgeSentenceTest.class);
    }

    private static void faulty(String marked, int kind) {
        Check.faultySentence(TEXT, marked, kind);
    }

    @Says("A SENTENCE is a text of at most 200 bytes")
    static void bytes() {
        RideLaws x = Check.riding(TEXT);
        Check.due("200 bytes with the one first", 1, Check.sentence(x, "up" + " ".repeat(198)));
        Check.due("200 bytes with the one last", 1, Check.sentence(x, " ".repeat(198) + "up"));
        Check.due("201 bytes with the one first", -201, Check.sentence(x, "up" + " ".repeat(199)));
        Check.due("fault()", 1, x.fault());
        Check.due("201 bytes with the one last", -201, Check.sentence(x, " ".repeat(199) + "up"));
        Check.due("202 bytes with the one last", -201, Check.sentence(x, " ".repeat(200) + "up"));
        Check.due("fault()", 1, x.fault());
        Check.due("940 bytes", -201, Check.sentence(x, " ".repeat(940)));
    }

    @Says("COND: ALL { 'or' ALL }")
    static void or() {
        RideLaws x = Check.riding(TEXT);
        Check.fits(x, "number=0", 1);
        Check.fits(x, "number=0 or number=3", 9);
        Check.fits(x, "number=0 or number=0", 1);
        Check.fits(x, "number=9 or number=8 or number=2 or number=7", 4);
        Check.fits(x, "number=9 or number=8", 0);
        faulty("up or|", 1);
        faulty("|or up", 1);
        faulty("up or |or up", 1);
        faulty("up |number=0", 1);
    }

    @Says("ALL: ONE { 'and' ONE }")
    static void and() {
        RideLaws x = Check.riding(TEXT);
        Check.fits(x, "number<3 and number>0", 6);
        Check.fits(x, "number<3 and number>0 and up", 4);
        Check.fits(x, "number<3 and number>3 and up", 0);
        faulty("up and|", 1);
        faulty("|and up", 1);
        faulty("up and |or up", 1);
    }

    /** What 'and' joins is within what 'or' joins, on either side; brackets turn that round. */
    @Says("COND: ALL { 'or' ALL }. ALL: ONE { 'and' ONE }")
    static void andWithinOr() {
        RideLaws x = Check.riding(TEXT);
        Check.fits(x, "number=0 or number=1 and number=2", 1);
        Check.fits(x, "number=1 and number=2 or number=0", 1);
        Check.fits(x, "(number=0 or number=1) and number=2", 0);
        Check.fits(x, "number=2 and (number=0 or number=2)", 4);
        Check.fits(x, "number=0 and up or number=2 and up or number=3 and up", 5);
        Check.fits(x, "up and mute or not up and not mute", 12);
        Check.fits(x, "up and (mute and (number=2 and number>1))", 4);
        Check.fits(x, "up and (mute or (number=0 and number<1))", 5);
        Check.fits(x, "number=0 or (number=1 or (number=2 and up))", 7);
        Check.fits(x, "up or up and mute and number=9 or number=9", 5);
        Check.fits(x, "not up or mute and not mute or number=0 and number=0", 11);
    }

    @Says("ONE: 'not' ONE | ( COND )")
    static void notAndBrackets() {
        RideLaws x = Check.riding(TEXT);
        Check.fits(x, "not up", 10);
        Check.fits(x, "not not up", 5);
        Check.fits(x, "not up and mute", 2);
        Check.fits(x, "not (up and mute)", 11);
        Check.fits(x, "not up or mute", 14);
        Check.fits(x, "not (up or mute)", 8);
        Check.fits(x, "(up)", 5);
        Check.fits(x, "not (not (up))", 5);
        Check.fits(x, "mute and not number=1", 4);
        faulty("not|", 1);
        faulty("not |or", 1);
        faulty("(|)", 1);
        faulty("(up|", 1);
        faulty("up|)", 1);
        faulty("((up)|", 1);
        faulty("(up |mute)", 1);
    }

    @Says("'up' (he is on a SEAT)")
    static void up() {
        RideLaws x = Check.riding(TEXT);
        Check.fits(x, "up", 5);
        x.alight(0);
        x.mount(1, 0);
        Check.fits(x, "up", 6);
    }

    @Says("'mute' (his ROLL is empty)")
    static void mute() {
        RideLaws x = Check.riding(TEXT);
        Check.fits(x, "mute", 6);
        x.learn(2, 0);
        Check.fits(x, "mute", 2);
    }

    @Says("'latest' (he said the LATEST word)")
    static void latest() {
        RideLaws x = Check.riding(TEXT);
        Check.fits(x, "latest", 0);
        x.ticks(1);
        Check.fits(x, "latest", 1);
        x.alight(0);
        x.mount(3, 0);
        Check.fits(x, "latest", 1);
        x.ticks(2);
        Check.fits(x, "latest", 8);
        x.whistle();
        Check.fits(x, "latest", 0);
    }

    @Says("'on' SEAT")
    static void on() {
        RideLaws x = Check.riding(TEXT);
        Check.fits(x, "on s", 1);
        Check.fits(x, "on t", 4);
        x.alight(2);
        Check.fits(x, "on t", 0);
        x.mount(3, 1);
        Check.fits(x, "on t", 8);
        faulty("on|", 1);
        faulty("on |up", 1);
        faulty("on |1", 1);
        faulty("on |v", 3);
    }

    @Says("'knows' WORD (it is in his ROLL)")
    static void knows() {
        RideLaws x = Check.riding(TEXT);
        Check.fits(x, "knows v", 1);
        Check.fits(x, "knows w", 9);
        x.learn(1, 1);
        Check.fits(x, "knows w", 11);
        faulty("knows|", 1);
        faulty("knows |0", 1);
        faulty("knows |s", 3);
    }

    @Says("( 'said' | 'roll' | 'number' ) SIGN NUMBER")
    static void compared() {
        String[] keys = {"said", "roll", "number"};
        for (String key : keys) {
            faulty(key + "|", 1);
            faulty(key + " |1", 1);
            faulty(key + " =|", 1);
            faulty(key + " = |=", 1);
            faulty(key + " = |v", 1);
            faulty(key + " |( = 1", 1);
            faulty(key + " |;1", 1);
            faulty(key + " < |> 1", 1);
            faulty(key + " = 1 |1", 1);
            RideLaws x = Check.riding(TEXT);
            Check.due(key + " counts one", 1, Check.sentence(x, key + " = 1"));
        }
    }

    @Says("how many words he said so far")
    static void wordsSaid() {
        RideLaws x = Check.riding(TEXT);
        Check.fits(x, "said=0", 15);
        x.ticks(3);
        Check.fits(x, "said=2", 1);
        Check.fits(x, "said=0", 14);
        x.whistle();
        x.alight(0);
        Check.fits(x, "said>1", 1);
    }

    @Says("how long his ROLL is")
    static void rollLength() {
        RideLaws x = Check.riding(TEXT);
        Check.fits(x, "roll=0", 6);
        Check.fits(x, "roll=1", 8);
        Check.fits(x, "roll=3", 1);
        x.learn(3, 1);
        Check.fits(x, "roll=2", 8);
    }

    @Says("his number")
    static void number() {
        RideLaws x = Check.riding(TEXT);
        for (int r = 0; r < 4; r++) {
            Check.fits(x, "number=" + r, 1 << r);
        }
        Check.fits(x, "number=4", 0);
    }

    @Says("SIGN: < = >")
    static void signs() {
        RideLaws x = Check.riding(TEXT);
        Check.fits(x, "number<0", 0);
        Check.fits(x, "number<2", 3);
        Check.fits(x, "number<3", 7);
        Check.fits(x, "number=2", 4);
        Check.fits(x, "number>2", 8);
        Check.fits(x, "number>3", 0);
        Check.fits(x, "number<999", 15);
        Check.fits(x, "number>0", 14);
    }

    @Says("20 ONES")
    static void twentyOnes() {
        RideLaws x = Check.riding(TEXT);
        Check.due("20 of them", 20, Check.sentence(x, "up" + " or up".repeat(19)));
        Check.fits(x, "mute and number=1" + " or mute and up".repeat(9), 6);
        Check.fits(x, "up and mute" + " and up and mute".repeat(9), 4);
        Check.due("20 with nots and brackets", 20, Check.sentence(x, "not up" + " or (up)".repeat(9)));
        faulty("up" + " or up".repeat(19) + " or |up", 4);
        faulty("not up" + " or (up)".repeat(9) + " or |up", 4);
        faulty("(up" + " or up".repeat(18) + ") or |not up", 4);
    }

    @Says("8 within one another")
    static void eightWithin() {
        RideLaws x = Check.riding(TEXT);
        Check.fits(x, "not not not not not not not up", 10);
        Check.fits(x, "(((((((up)))))))", 5);
        Check.fits(x, "not(not(not(not up)))", 5);
        Check.fits(x, "mute and (((((((up)))))) or number=1) and ((((((mute))))))", 6);
        Check.fits(x, "((((((up))))) and (((((mute))))))", 4);
        faulty("not not not not not not not not |up", 4);
        faulty("((((((((|up))))))))", 4);
        faulty("not(not(not(not(|up))))", 4);
    }

    @Says("It is said of RIDERS.")
    static void ofRiders() {
        RideLaws x = Check.riding(SIX);
        Check.fits(x, "number<9", 63);
        Check.fits(x, "up", 32);
        Check.fits(x, "mute", 31);
        Check.fits(x, "knows v", 32);
        RideLaws y = Check.riding("ring a 9 1;seat s a 1;word v;");
        Check.fits(y, "number<9", 0);
        Check.fits(y, "not up or on s or knows v", 0);
    }

    @Says(of = 35, value = "The tape is the SENTENCE now")
    static void theSentenceNow() {
        RideLaws x = Check.riding(TEXT);
        Check.due("sentence()", 1, Check.sentence(x, "up"));
        Check.due("the tape is empty", 0, x.count(5));
        Check.due("said(-1)", 2, x.said(-1));
        Check.due("another one", 1, Check.sentence(x, "number=3"));
        Check.due("said(-1)", 1, x.said(-1));
        Check.due("said(0)", 3, x.said(0));
        Check.due("undo() leaves it", -1, x.undo());
    }

    @Says(of = 35, value = "how many ONES (each not, bracket and other one)")
    static void howMany() {
        RideLaws x = Check.riding(TEXT);
        String[] texts = {"up", "mute", "latest", "on s", "knows v", "roll=1", "not up", "(up)", "not (up)", "up or up", "up and up",
            "not(up and(mute or latest))", "((up))", "not not not up", "up and mute or latest and up"};
        int[] want = {1, 1, 1, 1, 1, 1, 2, 2, 3, 2, 2, 6, 3, 4, 4};
        for (int i = 0; i < texts.length; i++) {
            Check.due("sentence() of " + texts[i], want[i], Check.sentence(x, texts[i]));
        }
    }

    @Says(of = 35, value = "-1 less the place of a FAULT: it stays")
    static void faultStays() {
        RideLaws x = Check.riding(TEXT);
        Check.due("a fault at 0 ahead of any", -1, x.sentence());
        Check.due("said(-1) ahead of any", -1, x.said(-1));
        Check.sentence(x, "number=2");
        Check.due("a fault at 0", -1, Check.sentence(x, "?"));
        Check.due("a fault at 6", -7, Check.sentence(x, "not up?"));
        Check.due("a fault at 7", -8, Check.sentence(x, "up and ?"));
        Check.due("a fault at 200", -201, Check.sentence(x, "up" + " ".repeat(199)));
        Check.due("the tape is empty", 0, x.count(5));
        Check.due("said(-1)", 1, x.said(-1));
        Check.due("said(0)", 2, x.said(0));
    }

    @Says(of = 36, value = "RIDERS of whom it may be said: how many (k NONE)")
    static void howManyRiders() {
        RideLaws x = Check.riding(TEXT);
        Check.sentence(x, "up");
        Check.due("said(NONE)", 2, x.said(RideLaws.NONE));
        Check.sentence(x, "up and not up");
        Check.due("said(NONE) of nobody", 0, x.said(RideLaws.NONE));
        Check.sentence(x, "up or not up");
        Check.due("said(NONE) of all", 4, x.said(RideLaws.NONE));
        RideLaws y = Check.riding(SIX);
        Check.sentence(y, "number<6");
        Check.due("said(NONE) of six", 6, y.said(RideLaws.NONE));
    }

    @Says(of = 36, value = "or the k-th")
    static void theOneOfThem() {
        RideLaws x = Check.riding(TEXT);
        Check.sentence(x, "not number=1");
        int[] want = {0, 2, 3, -1};
        for (int k = 0; k < want.length; k++) {
            Check.due("said(" + k + ")", want[k], x.said(k));
        }
        x.alight(2);
        Check.sentence(x, "up");
        Check.due("said(0)", 0, x.said(0));
        x.alight(0);
        x.mount(3, 0);
        Check.due("said(0), as it is now", 3, x.said(0));
        RideLaws y = Check.riding(SIX);
        Check.sentence(y, "up");
        Check.due("said(0), the last of six", 5, y.said(0));
    }

    @Says(of = 36, value = "NONE: there is no SENTENCE, none such.")
    static void noneSuch() {
        RideLaws x = Check.riding(TEXT);
        Check.due("said(-1) without a sentence", -1, x.said(-1));
        Check.due("said(0) without a sentence", -1, x.said(0));
        Check.sentence(x, "up");
        int[] others = {2, 3, 6, -2, -3, Integer.MAX_VALUE, Integer.MIN_VALUE};
        for (int k : others) {
            Check.due("said(" + k + ")", -1, x.said(k));
        }
        Check.sentence(x, "number=9");
        Check.due("said(0) of nobody", -1, x.said(0));
        x.ride();
        Check.due("said(-1) of a new ride", -1, x.said(-1));
        Check.due("said(-1) of no object's ride", -1, new RideLaws().said(-1));
    }
}
