/** Terms: the faults of the three texts, their kinds and their places. */
public final class EdgeFaultsTest {
    private static final String TEXT = "ring a 4 1;seat s a 0;seat st a 1;word v;word w;rider r s;rider q;says r v;law l v w;law m w v;";
    private static final String TEN_TICKS = "tick 1;".repeat(10);

    public static void main(String[] args) {
        Edges.run(EdgeFaultsTest.class);
    }

    private static void ride(String marked, int kind) {
        Check.faultyRide(marked, kind);
    }

    private static void book(String marked, int kind) {
        Check.faultyBook(TEXT, marked, kind);
    }

    private static void sentence(String marked, int kind) {
        Check.faultySentence(TEXT, marked, kind);
    }

    /** The text with blanks behind it, so many bytes long. */
    private static String wide(String text, int bytes) {
        return text + " ".repeat(bytes - text.length());
    }

    @Says("FAULTS, the first along the text")
    static void theFirst() {
        ride("ring a |1 1;ring a 4 1;", 2);
        ride("word a;word |a;ring b 1 1;", 3);
        ride("word a;word |a;?", 3);
        ride("ring a 4 1;ring b 4 1;ring c 4 1;|ring d 1 1;word word;", 4);
        ride("ring a |99 99;", 2);
        book("r mounts |x;tick 0;", 3);
        book("tick |0;r mounts x;", 2);
        book("r mounts |x", 3);
        sentence("on |x and knows x", 3);
        sentence("on |x and ?", 3);
    }

    @Says("of one TOKEN the least")
    static void theLeast() {
        ride("ring a 4 1;seat s a 0;seat t a |9;", 2);
        ride("word v;rider r;" + "says r v;".repeat(6) + "says |q v;", 3);
        ride("word v;rider r;" + "says r v;".repeat(6) + "says |v v;", 3);
        ride("word v;rider r;" + "says r v;".repeat(6) + "says |; v;", 1);
        book("tick 1;".repeat(40) + "|x alights;", 3);
        book("tick 1;".repeat(40) + "|s alights;", 3);
        book("tick 1;".repeat(40) + "|alights;", 1);
        book("tick 1;".repeat(40) + "|1;", 1);
        sentence("up" + " or up".repeat(19) + " or |or", 1);
        sentence("up" + " or up".repeat(19) + " or |v", 1);
        sentence("not not not not not not not not |and", 1);
    }

    @Says("1 no TOKEN, or one that can't come (at it")
    static void noToken() {
        ride("|!", 1);
        ride("word |Q;", 1);
        ride("|seats s a 0;", 1);
        ride("|mounts;", 1);
        ride("ring a 4 1 |);", 1);
        book("|ring a 4 1;", 1);
        book("r |says v;", 1);
        book("r |q;", 1);
        book("whistle |1;", 1);
        sentence("|whistle", 1);
        sentence("up |up", 1);
        sentence("up and |)", 1);
        sentence("number |number", 1);
    }

    /** A number where a told word should be, a told word where a number or a sign should be, a sign where either should. */
    @Says("or one that can't come (at it")
    static void otherSortsOfTokens() {
        for (int n = 0; n < 30; n++) {
            ride("|" + n + " b;", 1);
            ride("|" + n + " b 4 1;", 1);
            book("|" + n + ";", 1);
            book("|" + n + " 1;", 1);
            book("r |" + n + ";", 1);
            book("q |" + n + " st;", 1);
            sentence("|" + n, 1);
            sentence("up |" + n + " up", 1);
            sentence("said |" + n + " 1", 1);
        }
        for (String key : Check.KEYS) {
            ride("ring b |" + key + " 1;", 1);
            ride("ring b 4 |" + key + ";", 1);
            ride("ring b 4 1;seat t b |" + key + ";", 1);
            ride("word b |" + key, 1);
            book("tick |" + key + ";", 1);
            book("whistle |" + key, 1);
            sentence("number = |" + key, 1);
            sentence("number |" + key + " 1", 1);
        }
        String[] signs = {";", "<", "=", ">", "(", ")"};
        for (String sign : signs) {
            ride("|" + sign + " b;", 1);
            ride("word |" + sign + ";", 1);
            ride("ring b |" + sign + " 1;", 1);
            book("|" + sign, 1);
            book("q |" + sign, 1);
            book("tick |" + sign, 1);
            sentence("number = |" + sign, 1);
        }
    }

    @Says("the end: how many bytes there are")
    static void theEnd() {
        ride("word|", 1);
        ride("word a|", 1);
        ride("word a  \n |", 1);
        ride("ring a 4|", 1);
        ride("rider r|", 1);
        book("r|", 1);
        book("r mounts |", 1);
        book("whistle|", 1);
        book("tick  \n|", 1);
        sentence("|", 1);
        sentence(" \n|", 1);
        sentence("not|", 1);
        sentence("(up|", 1);
        sentence("up or  |", 1);
        sentence("said <|", 1);
        RideLaws x = Check.riding(TEXT);
        Check.due("the end at 900", -901, Check.ride(x, wide("word b", 900)));
        Check.due("the end at 899", -900, Check.ride(x, wide("word b", 899)));
        Check.due("a book's end at 400", -402, Check.book(x, wide("whistle", 400), 0));
        Check.due("a sentence's end at 200", -201, Check.sentence(x, wide("not", 200)));
    }

    @Says("the most bytes told, if there are more and no FAULT is ahead")
    static void mostBytes() {
        RideLaws x = Check.riding(TEXT);
        Check.due("a ride of 901", -901, Check.ride(x, wide("word b;", 901)));
        Check.due("fault()", 1, x.fault());
        Check.due("a ride of 920, a good line behind 900", -901, Check.ride(x, wide("word b;", 905) + "word c;"));
        Check.due("a ride of 920, a bad byte behind 900", -901, Check.ride(x, wide("word b;", 905) + "?"));
        Check.due("a ride of 901, a fault ahead", -6, Check.ride(x, wide("word ?;", 901)));
        x = Check.riding(TEXT);
        Check.due("a book of 401", -402, Check.book(x, wide("tick 1;", 401), 1));
        Check.due("fault()", 1, x.fault());
        Check.due("a book of 420, a good line behind 400", -402, Check.book(x, wide("tick 1;", 405) + "tick 2;", 1));
        Check.due("a book of 401, a fault ahead", -7, Check.book(x, wide("tick 0;", 401), 1));
        Check.due("fault()", 2, x.fault());
        Check.due("a sentence of 201", -201, Check.sentence(x, wide("up", 201)));
        Check.due("fault()", 1, x.fault());
        Check.due("a sentence of 210, more of it behind 200", -201, Check.sentence(x, wide("up", 202) + "or up"));
        Check.due("a sentence of 201, a fault ahead", -4, Check.sentence(x, wide("on x", 201)));
        Check.due("fault()", 3, x.fault());
        Check.due("now(0)", 0, x.now(0));
    }

    /** A token that begins just there is not looked at, whatever is wrong with it. */
    @Says("the most bytes told, if there are more")
    static void tokensFromThereOn() {
        RideLaws x = Check.riding(TEXT);
        String[] rides = {"ring b|31 1;", "ring b 30|0;", "ring b 4 1;seat t b|4;", "word b;word|b;", "word b;rider r|b;",
            "ring b 4 1;ring c 4 1;ring d 4 1;|ring e 4 1;"};
        for (String marked : rides) {
            Check.due("ride() of " + marked, -901, Check.ride(x, broken(marked, 900)));
            Check.due("fault() of " + marked, 1, x.fault());
        }
        String[] books = {"tick|0;", "|x alights;", "q mounts|x;", "tick 1;".repeat(40) + "|whistle;"};
        for (String marked : books) {
            Check.due("book(0) of " + marked, -402, Check.book(x, broken(marked, 400), 0));
            Check.due("fault() of " + marked, 1, x.fault());
        }
        String[] sentences = {"on|x", "knows|x", "up" + " or up".repeat(19) + " or|up", "((((((((|up"};
        for (String marked : sentences) {
            Check.due("sentence() of " + marked, -201, Check.sentence(x, broken(marked, 200)));
            Check.due("fault() of " + marked, 1, x.fault());
        }
    }

    /** The text with so many bytes ahead of what stands behind the mark |. */
    private static String broken(String marked, int bytes) {
        int mark = marked.indexOf('|');
        return wide(marked.substring(0, mark), bytes) + marked.substring(mark + 1);
    }

    @Says("TOKENS that begin ahead of it are read whole")
    static void readWhole() {
        RideLaws x = Check.riding(TEXT);
        Check.due("31 from 899 on", -900, Check.ride(x, wide("ring b", 899) + "31 1;"));
        Check.due("fault()", 2, x.fault());
        Check.due("30 from 899 on", -901, Check.ride(x, wide("ring b", 899) + "30 1;"));
        Check.due("fault()", 1, x.fault());
        Check.due("says from 897 on", -901, Check.ride(x, wide("rider b;", 897) + "says b v;"));
        Check.due("eight letters from 893 on", -894, Check.ride(x, wide("word ", 893) + "abcdefgh;"));
        Check.due("seven letters from 893 on", -901, Check.ride(x, wide("word ", 893) + "abcdefg;"));
        Check.due("seven letters from 894 on", -901, Check.ride(x, wide("word ", 894) + "abcdefg;"));
        x = Check.riding(TEXT);
        Check.due("a name told twice from 898 on", -899, Check.ride(x, wide("word abc;word", 898) + "abc;"));
        Check.due("fault()", 3, x.fault());
        Check.due("a name told once, told in part alike", -901, Check.ride(x, wide("word ab;word", 898) + "abc;"));
        Check.due("61 from 399 on", -401, Check.book(x, wide("tick", 399) + "61;", 0));
        Check.due("fault()", 2, x.fault());
        Check.due("60 from 399 on", -402, Check.book(x, wide("tick", 399) + "60;", 0));
        Check.due("fault()", 1, x.fault());
        Check.due("sx from 199 on", -200, Check.sentence(x, wide("on", 199) + "sx"));
        Check.due("fault()", 3, x.fault());
        Check.due("st from 199 on", -201, Check.sentence(x, wide("on", 199) + "st"));
        Check.due("fault()", 1, x.fault());
    }

    @Says("2 a NUMBER that is not as told (at it)")
    static void numbers() {
        ride("ring a |1 1;", 2);
        ride("ring a |31 1;", 2);
        ride("ring a 2 |0;", 2);
        ride("ring a 2 |10;", 2);
        ride("ring a 2 1;seat s a |2;", 2);
        book("tick |0;", 2);
        book("tick |61;", 2);
        book("tick |000;", 2);
        RideLaws x = Check.riding(TEXT);
        Check.due("no number of a sentence is amiss", 3, Check.sentence(x, "said<0 or roll>999 or number=500"));
    }

    @Says("3 a NAME told twice")
    static void toldTwice() {
        ride("ring x 4 1;ring |x 4 1;", 3);
        ride("ring x 4 1;seat s x 0;seat |s x 1;", 3);
        ride("word x;word |x;", 3);
        ride("rider x;rider |x;", 3);
        ride("word v;word w;law x v v;law |x w w;", 3);
        ride("word x;rider |x;", 3);
        ride("rider x;ring |x 4 1;", 3);
        ride("ring x 4 1;seat |x x 0;", 3);
        ride("word x;law |x x x;", 3);
    }

    @Says("not told")
    static void notTold() {
        ride("seat s |a 0;ring a 4 1;", 3);
        ride("rider r |s;ring a 4 1;seat s a 0;", 3);
        ride("word v;says |r v;rider r;", 3);
        ride("rider r;says r |v;word v;", 3);
        ride("word v;law l |w v;word w;", 3);
        ride("word v;law l v |w;word w;", 3);
        ride("word v;law l v v;clash |m l;", 3);
        ride("word v;law l v v;clash l |m;", 3);
        book("|x alights;", 3);
        book("q mounts |x;", 3);
        book("q learns |x;", 3);
        sentence("on |x", 3);
        sentence("knows |x", 3);
    }

    @Says("or of another sort")
    static void anotherSort() {
        String told = "ring a 4 1;seat s a 0;word v;rider r;law l v v;";
        String[] sorts = {"a", "s", "v", "r", "l"};
        for (int i = 0; i < sorts.length; i++) {
            String name = sorts[i];
            if (i != 0) {
                ride(told + "seat t |" + name + " 1;", 3);
            }
            if (i != 1) {
                ride(told + "rider q |" + name + ";", 3);
                book("q mounts |" + name + ";", 3);
                sentence("on |" + name, 3);
            }
            if (i != 2) {
                ride(told + "says r |" + name + ";", 3);
                ride(told + "law m |" + name + " v;", 3);
                ride(told + "law m v |" + name + ";", 3);
                book("q learns |" + name + ";", 3);
                sentence("knows |" + name, 3);
            }
            if (i != 3) {
                ride(told + "says |" + name + " v;", 3);
                book("|" + name + " alights;", 3);
            }
            if (i != 4) {
                ride(told + "clash |" + name + " l;", 3);
                ride(told + "clash l |" + name + ";", 3);
            }
        }
    }

    @Says("an AT that another SEAT of that RING has (at it)")
    static void takenStep() {
        ride("ring a 4 1;seat s a 3;seat t a |3;", 3);
        ride("ring a 4 1;seat s a 3;seat t a |03;", 3);
        ride("ring a 4 1;ring b 4 1;seat s a 3;seat t b 3;seat u a 0;seat w a |3;", 3);
    }

    @Says("a SEAT on which somebody is (at it)")
    static void takenSeat() {
        ride("ring a 4 1;seat s a 3;rider r s;rider q |s;", 3);
        ride("ring a 4 1;seat s a 3;seat t a 2;rider r t;rider q s;rider p |t;", 3);
        RideLaws x = Check.riding(TEXT);
        Check.due("a book may tell of such a one", 0, Check.book(x, "q mounts s;", 0));
        Check.due("fault()", 0, x.fault());
    }

    @Says("the second WORD of a LAW, if there is one of these two")
    static void lawOfTheseTwo() {
        ride("word v;word w;law l v w;law m v |w;", 3);
        ride("word v;word w;law l v v;law m v w;law n v |v;", 3);
        RideLaws x = Check.riding("word v;word w;law l v w;law m w v;law n v v;law o w w;");
        Check.due("count(4)", 4, x.count(4));
    }

    @Says("the second LAW of a 'clash', if it is the first or was told with it (at it)")
    static void clashToldWith() {
        String laws = "word v;word w;law l v v;law m v w;law n w v;law o w w;";
        ride(laws + "clash o |o;", 3);
        ride(laws + "clash o l;clash o |l;", 3);
        ride(laws + "clash o l;clash l |o;", 3);
        RideLaws x = Check.riding(laws + "clash o l;clash o m;clash n l;clash m n;");
        Check.due("law(3, 3)", 3, x.law(3, 3));
        Check.due("law(2, 3)", 3, x.law(2, 3));
    }

    @Says("4 one more than there may be of a sort")
    static void oneMore() {
        ride("ring a 4 1;ring b 4 1;ring c 4 1; |ring", 4);
        ride("ring z 9 1;seat a z 0;seat b z 1;seat c z 2;seat d z 3;seat e z 4;seat f z 5;seat g z 6;seat h z 7;\n|seat a z 0;", 4);
        ride("word a;word b;word c;word d;word e;word f;word g;word h;|word 1;", 4);
        ride("rider a;rider b;rider c;rider d;rider e;rider f;|rider a;", 4);
        ride("word v;word w;word x;law a v v;law b v w;law c v x;law d w v;law e w w;law f w x;law g x v;law h x w;|law h v v;", 4);
    }

    @Says("(a word of a ROLL: at the RIDER)")
    static void oneMoreWord() {
        String six = "word v;rider r;" + "says r v;".repeat(6);
        ride(six + "says |r v;", 4);
        ride(six + "says  \n |r x;", 4);
        ride(six + "says |r", 4);
    }

    @Says("a 41st LINE of a BOOK (at the LINE's first WORD)")
    static void oneMoreLine() {
        String forty = TEN_TICKS + TEN_TICKS + TEN_TICKS + TEN_TICKS;
        RideLaws x = Check.riding(TEXT);
        Check.due("40 lines", -1, Check.book(x, forty, 0));
        Check.due("told(1)", 40, x.told(1));
        book(forty + "|tick 1;", 4);
        book(forty + "|tick", 4);
        book(forty + "|whistle;", 4);
        book(forty + " \n|r alights;", 4);
        book(forty + "|r mounts x;", 4);
        book(forty + "|q", 4);
    }

    @Says("a 21st ONE")
    static void oneMoreOne() {
        RideLaws x = Check.riding(TEXT);
        Check.due("20 ones", 20, Check.sentence(x, "up" + " and up".repeat(19)));
        sentence("up" + " and up".repeat(19) + " and |up", 4);
        sentence("up" + " and up".repeat(19) + " and |on x", 4);
        sentence("up" + " and up".repeat(19) + " and |(up)", 4);
        sentence("up" + " and up".repeat(18) + " and (|up)", 4);
        sentence("up" + " and up".repeat(18) + " and not |not up", 4);
    }

    @Says("a ninth within (at its first TOKEN)")
    static void ninthWithin() {
        RideLaws x = Check.riding(TEXT);
        Check.due("eight nots and ones", 8, Check.sentence(x, "not not not not not not not up"));
        Check.due("eight brackets and ones", 8, Check.sentence(x, "(((((((up)))))))"));
        sentence("not not not not not not not not |up", 4);
        sentence("not not not not not not not not |not up", 4);
        sentence("((((((((|up))))))))", 4);
        sentence("((((((((|on x", 4);
        sentence("((((((((|(up)))))))))", 4);
        sentence("(((((((up))))))) or ((((((((|up))))))))", 4);
    }
}
