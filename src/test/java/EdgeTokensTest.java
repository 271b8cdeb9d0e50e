/** Terms: the tokens of all texts, sentence by sentence. */
public final class EdgeTokensTest {
    private static final String TEXT = "ring a 4 1;seat s a 0;word v;word w;rider r s;rider q;says r v;law l v w;";
    private static final int[] NO_BLANKS = {0, 1, 9, 11, 12, 13, 31, 33, 127, 128, 133, 160, 255};

    public static void main(String[] args) {
        Edges.run(EdgeTokensTest.class);
    }

    @Says("TOKENS of all texts, with blanks (32, 10) between them or not")
    static void blanksOrNot() {
        RideLaws x = new RideLaws();
        Check.due("ride() with many blanks", 4, Check.ride(x, "\n ring \n\n a  4\n1 ; \n seat\ns\na\n3\n;rider\n\nr s\n; word  w ;\n \n"));
        Check.due("seat(0, 1)", 3, x.seat(0, 1));
        Check.due("ride() with few blanks", 4, Check.ride(x, "ring a 4 1;seat s a 3;rider r s;word w;"));
        Check.due("book() with many blanks", -1, Check.book(x, " \n r\nalights\n \n;\n\nr  mounts\ns ;tick\n1\n; ", 0));
        Check.due("book() with few blanks", -1, Check.book(x, "r alights;r mounts s;tick 1;", 0));
        Check.due("sentence() with many blanks", 7, Check.sentence(x, "\nnot\n(\nup \n) and ( mute\n)or\nnumber\n<\n1\nor up "));
        Check.due("sentence() with few blanks", 7, Check.sentence(x, "not(up)and(mute)or number<1 or up"));
    }

    @Says("blanks (32, 10)")
    static void noOtherBlanks() {
        for (int b : NO_BLANKS) {
            char c = (char) b;
            Check.faultyRide("word w;|" + c, 1);
            Check.faultyRide("word |" + c + "w;", 1);
            Check.faultyRide("word w|" + c + ";", 1);
            Check.faultyBook(TEXT, "tick 1;|" + c + "tick 1;", 1);
            Check.faultySentence(TEXT, "not |" + c + "up", 1);
        }
    }

    @Says("WORDS: small letters, 1 to 7")
    static void words() {
        RideLaws x = Check.riding("word a;word z;word abcdefg;word tuvwxyz;word zzzzzzz;word aaaaaaa;");
        Check.due("count(2)", 6, x.count(2));
        Check.faultyRide("word |abcdefgh;", 1);
        Check.faultyRide("word |aaaaaaaaaaaaaaaaaaaaaaaaaaaaaaaaa;", 1);
        Check.faultyRide("word |A;", 1);
        Check.faultyRide("word |Z;", 1);
        Check.faultyRide("word |`;", 1);
        Check.faultyRide("word |{;", 1);
        Check.faultyRide("word |_;", 1);
        Check.faultyRide("word |" + (char) 228 + ";", 1);
        Check.faultyRide("word a|B;", 1);
        Check.faultyRide("word a|{;", 1);
        Check.faultyBook(TEXT, "|whistles;", 1);
        Check.faultyBook(TEXT, "|Tick 1;", 1);
        Check.faultySentence(TEXT, "knows |vvvvvvvv", 1);
    }

    /** Names that differ in their last, their first or any letter, or in their length, are not alike. */
    @Says("WORDS: small letters, 1 to 7")
    static void wordsAreHeldApart() {
        RideLaws x = Check.riding("word a;word aa;word aaaaaaa;word baaaaaa;word aaaaaab;word aaabaaa;word b;word ab;rider r;says r aaabaaa;");
        Check.due("count(2)", 8, x.count(2));
        Check.due("roll(0, 0)", 5, x.roll(0, 0));
        Check.dueText("line(0)", "r off next aaabaaa", Check.line(x, 0));
    }

    @Says("NUMBERS: 1 to 3 digits")
    static void numbers() {
        RideLaws x = Check.riding("ring a 9 1;seat s a 8;seat t a 07;seat u a 006;seat v a 000;ring b 030 009;seat w b 29;seat y b 10;");
        int[] at = {8, 7, 6, 0, 29, 10};
        for (int s = 0; s < at.length; s++) {
            Check.due("seat(" + s + ", 1)", at[s], x.seat(s, 1));
        }
        Check.faultyRide("ring a |0004 1;", 1);
        Check.faultyRide("ring a 4 |0001;", 1);
        Check.faultyRide("ring a |1000 1;", 1);
        Check.faultyRide("ring a |4294967300 1;", 1);
        Check.faultyRide("ring a |/ 1;", 1);
        Check.faultyRide("ring a |: 1;", 1);
        Check.faultyRide("ring a |-4 1;", 1);
        Check.faultyRide("ring a 4|.0 1;", 1);
        Check.faultyBook(TEXT, "tick |0005;", 1);
        Check.faultyBook(TEXT, "tick |4294967301;", 1);
        Check.faultySentence(TEXT, "said=|1000", 1);
        Check.faultySentence(TEXT, "said=|0000", 1);
        RideLaws y = Check.riding(TEXT);
        Check.fits(y, "said<999", 3);
        Check.fits(y, "number=001", 2);
        Check.fits(y, "number=00", 1);
    }

    @Says("; < = > ( ) .")
    static void signs() {
        RideLaws x = Check.riding(TEXT);
        Check.fits(x, "(number<1)or(number>1)or(number=1)", 3);
        String[] signs = {"<", "=", ">", "(", ")", "."};
        for (String sign : signs) {
            Check.faultyRide("word w|" + sign, 1);
            Check.faultyRide("word w;|" + sign, 1);
            Check.faultyBook(TEXT, "tick 1|" + sign + ";", 1);
            Check.faultySentence(TEXT, "up|" + sign, 1);
        }
        String others = "!\"#$%&'*+,-/:?@[]^_~\\";
        for (int i = 0; i < others.length(); i++) {
            Check.faultyRide("word w|" + others.charAt(i) + ";", 1);
            Check.faultySentence(TEXT, "up |" + others.charAt(i), 1);
        }
    }

    @Says("A WORD, NUMBER goes on as long as small letters and digits do")
    static void goesOn() {
        Check.faultyRide("|worda;", 1);
        Check.faultyRide("ring |a4 1;", 1);
        Check.faultyRide("ring a |4a 1;", 1);
        Check.faultyRide("ring a 4 |1b;", 1);
        Check.faultyRide("ring a |30x 1;", 1);
        Check.faultyRide("rider |r1;", 1);
        Check.faultyRide("rider |1r;", 1);
        Check.faultyRide("|word1 a;", 1);
        Check.faultyBook(TEXT, "|tick5;", 1);
        Check.faultyBook(TEXT, "tick |5a;", 1);
        Check.faultyBook(TEXT, "tick |5whistle;", 1);
        Check.faultyBook(TEXT, "|ralights;", 1);
        Check.faultySentence(TEXT, "|upor up", 1);
        Check.faultySentence(TEXT, "number<|1and up", 1);
        Check.faultySentence(TEXT, "|said1", 1);
        Check.faultySentence(TEXT, "on |s1", 1);
        RideLaws x = Check.riding(TEXT);
        Check.fits(x, "number<1 and up", 1);
    }

    /** A run of letters and digits that is neither is at fault where it begins, not where it goes wrong. */
    @Says("what is not as told is no TOKEN")
    static void noToken() {
        Check.faultyRide("word |abcdefg1;", 1);
        Check.faultyRide("word |a1b2c3;", 1);
        Check.faultyRide("ring a |12b4 1;", 1);
        Check.faultyRide("ring a |2222222222222222222222 1;", 1);
        Check.faultyRide("|a1", 1);
        Check.faultyRide("|1000", 1);
        Check.faultyRide("|abcdefgh", 1);
        Check.faultyRide("  \n |#word w;", 1);
    }
}
