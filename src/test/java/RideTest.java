/** Promises 4 and 5: ride and its faults. */
public final class RideTest {
    private static final String SOME = "ring a 4 1;seat s a 0;seat t a 1;word v;word w;rider r s;law l v w;";

    public static void main(String[] args) {
        goodRides();
        tokens();
        numbers();
        names();
        manyOfASort();
        keywordsAreNoNames();
        lengths();
        newRide();
        faultStays();
        Check.close();
    }

    private static void goodRides() {
        RideLaws x = new RideLaws();
        Check.due("ride() of nothing", 0, x.ride());
        Check.due("ride() of blanks", 0, Check.ride(x, "  \n \n"));
        Check.due("ride()", 7, Check.ride(x, SOME));
        Check.due("ride() without blanks", 4, Check.ride(x, "ring\na\n30\n9;seat b a 29;word abcdefg;rider x b;"));
        Check.due("seat(0, 1)", 29, x.seat(0, 1));
        Check.due("number of three digits", 2, Check.ride(x, "ring a 002 009;seat b a 001;"));
        Check.due("seat(0, 1) of three digits", 1, x.seat(0, 1));
        Check.due("alike ones and both orders", 8,
                Check.ride(x, "word v;word w;law a v v;law b v w;law c w v;clash a b;clash c a;rider r;"));
        Check.due("law(0, 3)", 6, x.law(0, 3));
        Check.due("law(1, 3)", 1, x.law(1, 3));
        Check.due("roll with alike ones", 8, Check.ride(x, "word v;rider r;says r v;says r v;says r v;says r v;says r v;says r v;"));
        Check.due("rider(0, 1)", 6, x.rider(0, 1));
        Check.due("words of a line are names", 3, Check.ride(x, "word off;word next;word tell;"));
    }

    private static void tokens() {
        Check.faultyRide("|;", 1);
        Check.faultyRide("|.", 1);
        Check.faultyRide("|<", 1);
        Check.faultyRide("|7", 1);
        Check.faultyRide("|name;", 1);
        Check.faultyRide("|tick 1;", 1);
        Check.faultyRide("|Word a;", 1);
        Check.faultyRide(" |\tword a;", 1);
        Check.faultyRide("word |abcdefgh;", 1);
        Check.faultyRide("word |a1;", 1);
        Check.faultyRide("word |1a;", 1);
        Check.faultyRide("word |12;", 1);
        Check.faultyRide("word |;", 1);
        Check.faultyRide("word |", 1);
        Check.faultyRide("word a|", 1);
        Check.faultyRide("word a  \n|", 1);
        Check.faultyRide("word a |b;", 1);
        Check.faultyRide("word a;|;", 1);
        Check.faultyRide("ring |4 4 1;", 1);
        Check.faultyRide("ring a |b 1;", 1);
        Check.faultyRide("ring a |1000 1;", 1);
        Check.faultyRide("ring a 4 |;", 1);
        Check.faultyRide("ring a 4 1 |1;", 1);
        Check.faultyRide("ring a 4 1;seat s |0 a;", 1);
        Check.faultyRide("ring a 4 1;seat s a |b;", 1);
        Check.faultyRide("rider r |4;", 1);
        Check.faultyRide("rider r|", 1);
        Check.faultyRide("rider r |word w;", 1);
        Check.faultyRide("rider r;says |4;", 1);
        Check.faultyRide("rider r;says r |;", 1);
        Check.faultyRide("word w;law l w |;", 1);
        Check.faultyRide("word w;law l |3 w;", 1);
        Check.faultyRide(SOME + "clash |;", 1);
        Check.faultyRide(SOME + "clash l |;", 1);
        Check.faultyRide(SOME + "clash |(l l);", 1);
        Check.faultyRide("|ringa 4 1;", 1);
    }

    private static void numbers() {
        Check.faultyRide("ring a |1 1;", 2);
        Check.faultyRide("ring a |0 1;", 2);
        Check.faultyRide("ring a |31 1;", 2);
        Check.faultyRide("ring a 4 |0;", 2);
        Check.faultyRide("ring a 4 |10;", 2);
        Check.faultyRide("ring a 4 |999;", 2);
        Check.faultyRide("ring a 4 1;seat s a |4;", 2);
        Check.faultyRide("ring a 4 1;ring b 9 1;seat s b 8;seat t a |8;", 2);
    }

    private static void names() {
        Check.faultyRide("word a;word |a;", 3);
        Check.faultyRide("word a;ring |a 4 1;", 3);
        Check.faultyRide("ring a 4 1;seat |a a 1;", 3);
        Check.faultyRide("word a;rider |a;", 3);
        Check.faultyRide("word a;law |a a a;", 3);
        Check.faultyRide("word a;rider r;rider |r;", 3);
        Check.faultyRide("seat s |a 0;", 3);
        Check.faultyRide("word a;seat s |a 0;", 3);
        Check.faultyRide("seat s |s 0;", 3);
        Check.faultyRide("ring a 4 1;seat s a 0;seat t a |0;", 3);
        Check.faultyRide("ring a 4 1;seat s a 2;seat t a 1;seat u a |2;", 3);
        Check.faultyRide("rider r |s;", 3);
        Check.faultyRide("rider r |r;", 3);
        Check.faultyRide("ring a 4 1;rider r |a;", 3);
        Check.faultyRide(SOME + "rider q t;rider p |s;", 3);
        Check.faultyRide("word v;says |r v;", 3);
        Check.faultyRide("word v;says |v v;", 3);
        Check.faultyRide("rider r;says r |v;", 3);
        Check.faultyRide("rider r;says r |r;", 3);
        Check.faultyRide("word v;law l |w v;", 3);
        Check.faultyRide("word v;law l v |w;", 3);
        Check.faultyRide("word v;law l |l v;", 3);
        Check.faultyRide(SOME + "law m v |w;", 3);
        Check.faultyRide("word v;law l v v;law m v |v;", 3);
        Check.faultyRide(SOME + "clash |m l;", 3);
        Check.faultyRide(SOME + "clash l |m;", 3);
        Check.faultyRide(SOME + "clash l |l;", 3);
        Check.faultyRide(SOME + "clash l |v;", 3);
        Check.faultyRide(SOME + "law m w v;clash l m;clash l |m;", 3);
        Check.faultyRide(SOME + "law m w v;clash l m;clash m |l;", 3);
    }

    private static void manyOfASort() {
        Check.faultyRide("ring a 4 1;ring b 4 1;ring c 4 1;|ring d 4 1;", 4);
        Check.faultyRide("ring a 4 1;ring b 4 1;ring c 4 1;|ring a 99 0", 4);
        Check.faultyRide("ring r 9 1;" + times("seat % r #;", 8) + "|seat i r 8;", 4);
        Check.faultyRide(times("word %;", 8) + "|word i;", 4);
        Check.faultyRide(times("rider %;", 6) + "|rider g;", 4);
        Check.faultyRide("word v;rider r;" + times("says r v;", 6) + "says |r v;", 4);
        Check.faultyRide("word v;rider r;" + times("says r v;", 6) + "says |r 7;", 4);
        Check.faultyRide("word v;rider r;" + times("says r v;", 6) + "says |v v;", 3);
        String words = "word x;word y;word z;";
        String laws = "law a x x;law b x y;law c x z;law d y x;law e y y;law f y z;law g z x;law h z y;";
        Check.faultyRide(words + laws + "|law i z z;", 4);
        RideLaws x = Check.riding("ring j 9 1;ring k 9 1;ring l 9 1;" + times("seat % j #;", 8));
        Check.due("count(0) at most", 3, x.count(0));
        Check.due("count(1) at most", 8, x.count(1));
        x = Check.riding(times("word %;", 8) + "rider r;rider q;rider p;rider o;rider n;rider m;");
        Check.due("count(2) at most", 8, x.count(2));
        Check.due("count(3) at most", 6, x.count(3));
        StringBuilder clashes = new StringBuilder();
        for (char one = 'a'; one <= 'h'; one++) {
            for (char other = 'a'; other < one; other++) {
                clashes.append("clash ").append(one).append(' ').append(other).append(';');
            }
        }
        x = Check.riding(words + laws + clashes);
        Check.due("count(4) at most", 8, x.count(4));
        Check.due("law(7, 3) with all clashes", 127, x.law(7, 3));
    }

    private static void keywordsAreNoNames() {
        String keys = "ring seat word rider says law clash mounts alights learns whistle tick or and not up mute latest"
                + " on knows said roll number";
        for (String key : keys.split(" ")) {
            Check.faultyRide("word |" + key + ";", 1);
            Check.faultyRide("word w;rider r;says |" + key + " w;", 1);
            RideLaws x = new RideLaws();
            Check.due("ride() of a name that begins with " + key, 1, Check.ride(x, "word x" + key.substring(1) + ";"));
        }
    }

    private static void lengths() {
        RideLaws x = new RideLaws();
        Check.due("900 bytes", 1, Check.ride(x, "word a;" + " ".repeat(893)));
        Check.due("901 bytes", -901, Check.ride(x, "word a;" + " ".repeat(894)));
        Check.due("fault() of 901 bytes", 1, x.fault());
        Check.due("940 bytes", -901, Check.ride(x, "word a;" + " ".repeat(933)));
        Check.due("a fault ahead of 900", -900, Check.ride(x, "word a;" + " ".repeat(892) + "|;" + " ".repeat(9)));
        Check.due("a fault at 900", -901, Check.ride(x, "word a;" + " ".repeat(893) + "|;"));
        Check.due("a name that was not told at 900", -901, Check.ride(x, "rider r" + " ".repeat(893) + "xyz;"));
        Check.due("its fault()", 1, x.fault());
        Check.due("a name that was not told at 899", -900, Check.ride(x, "rider r" + " ".repeat(892) + "xyz;"));
        Check.due("its fault()", 3, x.fault());
        Check.due("a token that goes beyond, told twice", -900, Check.ride(x, "word abcd;" + " ".repeat(884) + "word abcd;"));
        Check.due("its fault()", 3, x.fault());
        Check.due("a token that goes beyond and is too long", -900, Check.ride(x, "word " + " ".repeat(894) + "abcdefgh;"));
        Check.due("a token that goes beyond and is none", -900, Check.ride(x, "word " + " ".repeat(894) + "abc1;"));
        Check.due("a good token that goes beyond", -901, Check.ride(x, "word " + " ".repeat(894) + "abcdefg"));
        Check.due("one more at 894", -895, Check.ride(x, "ring a 4 1;ring b 4 1;ring c 4 1;" + " ".repeat(861) + "ring dddd 4 1;"));
        Check.due("its fault() 4", 4, x.fault());
        Check.due("the end at 900", -901, Check.ride(x, "word a" + " ".repeat(894)));
        Check.due("the end at 899", -900, Check.ride(x, "word a" + " ".repeat(893)));
    }

    private static void newRide() {
        RideLaws x = Check.riding(SOME + "says r v;says r w;");
        Check.due("sentence()", 1, Check.sentence(x, "up"));
        x.ticks(60);
        x.whistle();
        x.ticks(9);
        Check.due("ride() anew", 3, Check.ride(x, "word v;rider q;rider p;"));
        int[] now = {0, -1, -1, 0, 0, 0, 0, 0};
        for (int what = 0; what < now.length; what++) {
            Check.due("now(" + what + ") of a new ride", now[what], x.now(what));
        }
        Check.due("rider(0, 0) of a new ride", -1, x.rider(0, 0));
        Check.due("rider(0, 1) of a new ride", 0, x.rider(0, 1));
        Check.due("rider(0, 3) of a new ride", 0, x.rider(0, 3));
        Check.due("said(-1) of a new ride", -1, x.said(-1));
        Check.due("undo() of a new ride", -1, x.undo());
        Check.due("ride() of nothing", 0, x.ride());
        Check.due("count(2) of no ride", 0, x.count(2));
        Check.due("the same ride again", 9, Check.ride(x, SOME + "says r v;says r w;"));
        Check.due("law(0, 4) of it", 0, x.law(0, 4));
        x.odds(0, 3, 3);
        Check.book(x, "tick 60;whistle;tick 9;r alights;", 0);
        Check.due("the same ride behind a judged book", 9, Check.ride(x, SOME + "says r v;says r w;"));
        Check.due("law(0, 4) of it", 0, x.law(0, 4));
        Check.due("now(0) of it", 0, x.now(0));
        Check.due("now(4) of it", 0, x.now(4));
        Check.due("now(6) of it", 1, x.now(6));
        Check.due("now(7) of it", 0, x.now(7));
        Check.due("law(0, 3) of it", 0, x.law(0, 3));
        Check.due("rider(0, 2) of it", 0, x.rider(0, 2));
        Check.due("seat(0, 1) of it", 0, x.seat(0, 1));
    }

    private static void faultStays() {
        RideLaws x = Check.riding(SOME + "says r v;");
        Check.sentence(x, "up");
        x.ticks(5);
        Check.due("a ride with a fault", -6, Check.ride(x, "word ;"));
        Check.due("now(0) stays", 5, x.now(0));
        Check.due("said(-1) stays", 1, x.said(-1));
        Check.due("fault()", 1, x.fault());
        Check.due("book(2)", -1000, x.book(2));
        Check.due("fault() behind -1000", 1, x.fault());
        Check.due("undo() behind a fault", 0, x.undo());
        Check.due("now(0) behind undo()", 0, x.now(0));
        Check.due("book(0)", -1, x.book(0));
        Check.due("fault() of a good book", 0, x.fault());
        Check.due("sentence() of nothing", -1, x.sentence());
        Check.due("fault() of a sentence", 1, x.fault());
        Check.due("ride() of nothing", 0, x.ride());
        Check.due("fault() of a good ride", 0, x.fault());
    }

    /** The line n times, with a letter for % and a number for #. */
    private static String times(String line, int n) {
        StringBuilder text = new StringBuilder();
        for (int i = 0; i < n; i++) {
            text.append(line.replace("%", String.valueOf((char) ('a' + i))).replace("#", String.valueOf(i)));
        }
        return text.toString();
    }
}
