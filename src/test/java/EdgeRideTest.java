/** Terms: what a ride's text may tell, and how much of it. */
public final class EdgeRideTest {
    private static final String[] LETTERS = {"a", "b", "c", "d", "e", "f", "g", "h", "i"};

    public static void main(String[] args) {
        Edges.run(EdgeRideTest.class);
    }

    private static String many(String line, int n) {
        StringBuilder text = new StringBuilder();
        for (int i = 0; i < n; i++) {
            text.append(line.replace("%", LETTERS[i]).replace("#", String.valueOf(i)));
        }
        return text.toString();
    }

    @Says("A RIDE is a text of at most 900 bytes")
    static void bytes() {
        RideLaws x = new RideLaws();
        Check.due("900 bytes with the line first", 1, Check.ride(x, "word a;" + " ".repeat(893)));
        Check.due("900 bytes with the line last", 1, Check.ride(x, " ".repeat(893) + "word a;"));
        Check.due("901 bytes with the line first", -901, Check.ride(x, "word a;" + " ".repeat(894)));
        Check.due("fault() of 901 bytes", 1, x.fault());
        Check.due("901 bytes with the line last", -901, Check.ride(x, " ".repeat(894) + "word a;"));
        Check.due("fault() of 901 bytes", 1, x.fault());
        Check.due("940 bytes", -901, Check.ride(x, " ".repeat(940)));
        Check.due("count(2) of the latest good one", 1, x.count(2));
    }

    @Says("{ LINE ; }")
    static void lines() {
        RideLaws x = new RideLaws();
        Check.due("no line", 0, x.ride());
        Check.due("blanks alone", 0, Check.ride(x, " \n"));
        Check.due("one line", 1, Check.ride(x, "word a;"));
        Check.due("fifty lines", 50, Check.ride(x, fiftyLines()));
        Check.faultyRide("word a|", 1);
        Check.faultyRide("word a |word b;", 1);
        Check.faultyRide("word a;|;", 1);
        Check.faultyRide("|;word a;", 1);
    }

    /** Eight words, eight laws, all their clashes but two, six riders and a say for each but two. */
    private static String fiftyLines() {
        StringBuilder text = new StringBuilder(many("word w%;", 8)).append(many("law %x wa w%;", 8));
        int clashes = 0;
        for (int i = 0; i < 8; i++) {
            for (int k = 0; k < i && clashes < 24; k++) {
                text.append("clash ").append(LETTERS[i]).append("x ").append(LETTERS[k]).append("x;");
                clashes++;
            }
        }
        return text.append(many("rider %y;", 6)).append(many("says %y wa;", 4)).toString();
    }

    @Says("LINE: 'ring' NAME STEPS SPEED (2 to 30; 1 to 9 steps a TICK)")
    static void ring() {
        RideLaws x = Check.riding("ring a 2 1;ring b 30 9;ring c 29 8;seat s a 1;seat t b 29;seat u c 0;");
        x.ticks(1);
        Check.due("seat(0, 1)", 0, x.seat(0, 1));
        Check.due("seat(1, 1)", 8, x.seat(1, 1));
        Check.due("seat(2, 1)", 8, x.seat(2, 1));
        int[] steps = {0, 1, 31, 32, 99, 999};
        for (int n : steps) {
            Check.faultyRide("ring a |" + n + " 1;", 2);
        }
        int[] speeds = {0, 10, 11, 30, 999};
        for (int n : speeds) {
            Check.faultyRide("ring a 30 |" + n + ";", 2);
        }
        Check.faultyRide("ring a 4|;", 1);
        Check.faultyRide("ring a 4 1 |1;", 1);
        Check.faultyRide("ring |4 a 1;", 1);
    }

    @Says("'seat' NAME RING AT (0 to its STEPS less 1")
    static void seatAt() {
        RideLaws x = Check.riding("ring a 2 1;ring b 30 1;seat s a 0;seat t a 1;seat u b 29;seat v b 0;");
        int[] at = {0, 1, 29, 0};
        int[] ring = {0, 0, 1, 1};
        for (int s = 0; s < 4; s++) {
            Check.due("seat(" + s + ", 1)", at[s], x.seat(s, 1));
            Check.due("seat(" + s + ", 0)", ring[s], x.seat(s, 0));
        }
        Check.faultyRide("ring a 2 1;ring b 30 1;seat s a |2;", 2);
        Check.faultyRide("ring a 2 1;ring b 30 1;seat s a |29;", 2);
        Check.faultyRide("ring a 2 1;ring b 30 1;seat s b |30;", 2);
        Check.faultyRide("ring a 2 1;seat s |1 a;", 1);
        Check.faultyRide("ring a 2 1;seat s a|;", 1);
    }

    @Says("no two of one RING alike")
    static void seatsApart() {
        RideLaws x = Check.riding("ring a 4 1;ring b 4 1;ring c 4 1;seat s a 2;seat t b 2;seat u c 2;seat v a 3;");
        Check.due("count(1), like steps of other rings", 4, x.count(1));
        Check.faultyRide("ring a 4 1;seat s a 2;seat t a |2;", 3);
        Check.faultyRide("ring a 4 1;ring b 4 1;seat s a 2;seat t b 2;seat u b |2;", 3);
        Check.faultyRide("ring a 4 1;seat s a 0;seat t a 1;seat u a 2;seat v a |000;", 3);
    }

    @Says("'word' NAME")
    static void word() {
        RideLaws x = Check.riding("word v;");
        Check.due("count(2)", 1, x.count(2));
        Check.faultyRide("word v |v;", 1);
        Check.faultyRide("word|;", 1);
    }

    @Says("'rider' NAME [ SEAT ] (he is on it; one on a SEAT)")
    static void rider() {
        RideLaws x = Check.riding("ring a 4 1;seat s a 2;seat t a 1;rider r t;rider q;rider p s;");
        int[] on = {1, -1, 0};
        for (int r = 0; r < 3; r++) {
            Check.due("rider(" + r + ", 0)", on[r], x.rider(r, 0));
        }
        Check.due("seat(0, 2)", 2, x.seat(0, 2));
        Check.due("seat(1, 2)", 0, x.seat(1, 2));
        Check.faultyRide("ring a 4 1;seat s a 2;rider r s;rider q |s;", 3);
        Check.faultyRide("ring a 4 1;seat s a 2;seat t a 1;rider r s |t;", 1);
        Check.faultyRide("rider|;", 1);
    }

    @Says("'says' RIDER WORD (the next one of his ROLL, alike ones, too)")
    static void says() {
        RideLaws x = Check.riding("word v;word w;rider r;rider q;says r w;says q v;says r w;says r v;says q v;");
        int[] roll = {1, 1, 0, -1};
        for (int k = 0; k < roll.length; k++) {
            Check.due("roll(0, " + k + ")", roll[k], x.roll(0, k));
        }
        Check.due("roll(1, 1)", 0, x.roll(1, 1));
        Check.due("rider(1, 1)", 2, x.rider(1, 1));
        Check.faultyRide("word v;rider r;says r|;", 1);
        Check.faultyRide("word v;rider r;says r v |v;", 1);
        Check.faultyRide("word v;rider r;says |v r;", 3);
    }

    @Says("'law' NAME WORD WORD (alike ones, too")
    static void law() {
        RideLaws x = Check.riding("word v;word w;law l w v;law m w w;");
        Check.due("law(0, 0)", 1, x.law(0, 0));
        Check.due("law(0, 1)", 0, x.law(0, 1));
        Check.due("law(1, 0)", 1, x.law(1, 0));
        Check.due("law(1, 1)", 1, x.law(1, 1));
        Check.faultyRide("word v;law l v|;", 1);
        Check.faultyRide("word v;law l v v |v;", 1);
    }

    @Says("no two LAWS of the same two in the same order")
    static void lawsApart() {
        RideLaws x = Check.riding("word v;word w;law l w v;law m v w;law n v v;law o w w;");
        Check.due("count(4), all orders", 4, x.count(4));
        Check.faultyRide("word v;word w;law l w v;law m w |v;", 3);
        Check.faultyRide("word v;word w;law l w v;law m v w;law n v |w;", 3);
        Check.faultyRide("word v;law l v v;law m v |v;", 3);
    }

    @Says("'clash' LAW LAW (unlike; each two once, in whatever order)")
    static void clash() {
        String laws = "word v;word w;law l v v;law m v w;law n w v;";
        RideLaws x = Check.riding(laws + "clash l m;clash n l;");
        Check.due("law(0, 3)", 6, x.law(0, 3));
        Check.due("law(1, 3)", 1, x.law(1, 3));
        Check.due("law(2, 3)", 1, x.law(2, 3));
        Check.faultyRide(laws + "clash l |l;", 3);
        Check.faultyRide(laws + "clash l m;clash l |m;", 3);
        Check.faultyRide(laws + "clash l m;clash m |l;", 3);
        Check.faultyRide(laws + "clash l m;clash m n;clash n |m;", 3);
        Check.faultyRide(laws + "clash l|;", 1);
        Check.faultyRide(laws + "clash l m |n;", 1);
    }

    @Says("NAME: a WORD, none of those told here, in a BOOK or a SENTENCE")
    static void keysAreNoNames() {
        String all = "ring a 4 1;seat s a 0;word v;rider r;law l v v;";
        for (String key : Check.KEYS) {
            Check.faultyRide("ring |" + key + " 4 1;", 1);
            Check.faultyRide("ring a 4 1;seat |" + key + " a 1;", 1);
            Check.faultyRide("word |" + key + ";", 1);
            Check.faultyRide("rider |" + key + ";", 1);
            Check.faultyRide("word v;law |" + key + " v v;", 1);
            Check.faultyRide(all + "seat t |" + key + " 1;", 1);
            Check.faultyRide(all + "rider q |" + key + ";", 1);
            Check.faultyRide(all + "says |" + key + " v;", 1);
            Check.faultyRide(all + "says r |" + key + ";", 1);
            Check.faultyRide(all + "law m |" + key + " v;", 1);
            Check.faultyRide(all + "law m v |" + key + ";", 1);
            Check.faultyRide(all + "clash |" + key + " l;", 1);
            Check.faultyRide(all + "clash l |" + key + ";", 1);
        }
        String others = "off next rings seats words riders say tell rin ringg s ri";
        for (String name : others.split(" ")) {
            Check.due("ride() of the name " + name, 1, Check.ride(new RideLaws(), "word " + name + ";"));
        }
    }

    @Says("told once")
    static void namesOnce() {
        String[] told = {"ring x 4 1;", "ring a 4 1;seat x a 0;", "word x;", "rider x;", "word v;law x v v;"};
        String[] again = {"ring |x 4 1;", "ring b 4 1;seat |x b 1;", "word |x;", "rider |x;", "word w;law |x w w;"};
        for (String first : told) {
            for (String second : again) {
                Check.faultyRide(first + second, 3);
            }
        }
    }

    @Says("3 RINGS")
    static void rings() {
        Check.due("count(0)", 3, Check.riding(many("ring % 4 1;", 3)).count(0));
        Check.faultyRide(many("ring % 4 1;", 3) + "|ring d 4 1;", 4);
    }

    @Says("8 SEATS")
    static void seats() {
        RideLaws x = Check.riding("ring x 8 1;ring y 3 1;" + many("seat % x #;", 8));
        Check.due("count(1)", 8, x.count(1));
        Check.due("seat(7, 1)", 7, x.seat(7, 1));
        Check.faultyRide("ring x 8 1;ring y 3 1;" + many("seat % x #;", 8) + "|seat i y 0;", 4);
        Check.faultyRide("ring x 8 1;ring y 3 1;" + many("seat % x #;", 7) + "seat h y 0;|seat i y 1;", 4);
    }

    @Says("8 WORDS")
    static void words() {
        Check.due("count(2)", 8, Check.riding(many("word %;", 8)).count(2));
        Check.faultyRide(many("word %;", 8) + "|word i;", 4);
    }

    @Says("6 RIDERS")
    static void riders() {
        Check.due("count(3)", 6, Check.riding(many("rider %;", 6)).count(3));
        Check.faultyRide(many("rider %;", 6) + "|rider g;", 4);
    }

    @Says("6 words of a ROLL")
    static void rollWords() {
        String six = "word v;rider r;rider q;" + "says r v;".repeat(6);
        RideLaws x = Check.riding(six + "says q v;");
        Check.due("rider(0, 1)", 6, x.rider(0, 1));
        Check.due("rider(1, 1)", 1, x.rider(1, 1));
        Check.faultyRide(six + "says |r v;", 4);
        Check.faultyRide(six + "says q v;says |r v;", 4);
    }

    @Says("8 LAWS at most")
    static void laws() {
        String eight = "word x;" + many("word w%;", 7) + many("law % x w%;", 7) + "law h x x;";
        Check.due("count(4)", 8, Check.riding(eight).count(4));
        Check.faultyRide(eight + "|law i wa x;", 4);
    }

    @Says("numbered from 0 each (but for ROLLS)")
    static void numbered() {
        RideLaws x = Check.riding("word v;ring a 4 1;rider r;seat s a 3;ring b 5 1;word w;law l w v;seat t b 4;rider q t;law m v w;says q w;");
        Check.due("seat(0, 0)", 0, x.seat(0, 0));
        Check.due("seat(1, 0)", 1, x.seat(1, 0));
        Check.due("rider(0, 0)", -1, x.rider(0, 0));
        Check.due("rider(1, 0)", 1, x.rider(1, 0));
        Check.due("law(0, 0)", 1, x.law(0, 0));
        Check.due("law(1, 0)", 0, x.law(1, 0));
        Check.due("roll(1, 0)", 1, x.roll(1, 0));
    }

    /** 'word' and a name, not each small word of the text, is what a roll or a law tells. */
    @Says("A WORD with a NAME is a WORD of the RIDE here and below.")
    static void wordsOfTheRide() {
        Check.faultyRide("rider r;says r |v;word v;", 3);
        Check.faultyRide("ring a 4 1;rider r;says r |a;", 3);
        Check.faultyRide("word v;law l v |l;", 3);
        RideLaws x = Check.riding("word v;rider r;");
        Check.due("learn(0, 0)", 0, x.learn(0, 0));
        Check.due("learn(0, 1)", -1, x.learn(0, 1));
    }
}
