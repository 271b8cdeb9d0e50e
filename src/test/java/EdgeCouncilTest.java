/** Terms of section 3 and promises 22 to 25 and 27 to 30: able, power, stand, standing, part, most, line, byteAt. */
public final class EdgeCouncilTest {
    private static final int[] FAR = {-1, -2, 8, 99, Integer.MAX_VALUE, Integer.MIN_VALUE};
    private static final String WORDS = "word v;word w;word z;";
    private static final String SIX = "rider aa;rider bb;rider cc;rider dd;rider ee;rider ff;";
    private static final String FOUR_LAWS = WORDS + "law a v v;law b v w;law c v z;law d w v;";
    private static final String EIGHT_LAWS = FOUR_LAWS + "law e w w;law f w z;law g z v;law h z w;";

    public static void main(String[] args) {
        Edges.run(EdgeCouncilTest.class);
    }

    private static void duePower(RideLaws x, int r, int l, int above, int below) {
        Check.due("power(" + r + ", " + l + ", 0)", above, x.power(r, l, 0));
        Check.due("power(" + r + ", " + l + ", 1)", below, x.power(r, l, 1));
    }

    private static void duePart(RideLaws x, int r, int above, int below) {
        Check.due("part(" + r + ", 0)", above, x.part(r, 0));
        Check.due("part(" + r + ", 1)", below, x.part(r, 1));
    }

    @Says("ABLE to a LAW: who KNOWS one of its words at least.")
    static void ableTo() {
        RideLaws x = Check.riding(WORDS + SIX + "says aa v;says bb w;says cc z;says dd v;says dd w;says ff z;says ff z;says ff w;"
                + "law l v w;law m z z;law n w v;");
        Check.due("able(0)", 1 + 2 + 8 + 32, x.able(0));
        Check.due("able(1)", 4 + 32, x.able(1));
        Check.due("able(2)", 1 + 2 + 8 + 32, x.able(2));
        x.learn(4, 2);
        Check.due("able(1), one learned it", 4 + 16 + 32, x.able(1));
    }

    @Says("POWER of a RIDER for a LAW: of all sets of other RIDERS by how many, by how many such sets there are")
    static void setsOfOthers() {
        RideLaws x = Check.riding(WORDS + "rider r;says r v;says r w;law l v w;");
        duePower(x, 0, 0, 1, 1);
        x = Check.riding(WORDS + "rider r;rider q;says r v;says q w;law l v w;");
        duePower(x, 0, 0, 1, 2);
        duePower(x, 1, 0, 1, 2);
        x = Check.riding(WORDS + SIX + "says aa v;says bb v;says cc v;says dd w;says ee w;says ff w;law l v w;");
        for (int r = 0; r < 6; r++) {
            duePower(x, r, 0, 7, 32);
        }
        x = Check.riding(WORDS + SIX + "says ff v;says ff w;says aa v;law l v w;law m v v;");
        duePower(x, 5, 0, 1, 1);
        duePower(x, 5, 1, 1, 2);
        duePower(x, 0, 1, 1, 2);
        duePower(x, 0, 0, 0, 1);
    }

    @Says("not each of the two words of it is KNOWN to somebody of the set (one to this one, the other to that one, it may be)")
    static void notKnownToTheSet() {
        // p turns {}, {r} and {q}, but not {r, q}, who know one word each.
        RideLaws x = Check.riding(WORDS + "rider r;rider q;rider p;says r v;says q w;says p v;says p w;law l v w;");
        duePower(x, 2, 0, 3, 4);
        // Another one who knows both leaves p one set of two more.
        x.learn(0, 1);
        duePower(x, 2, 0, 1, 2);
        duePower(x, 0, 0, 1, 2);
    }

    @Says("but each is to somebody of the set and him.")
    static void knownToTheSetAndHim() {
        RideLaws x = Check.riding(WORDS + "rider r;rider q;rider p;says r v;says q w;law l v w;law m v z;law n v v;");
        duePower(x, 0, 0, 1, 2);
        duePower(x, 1, 0, 1, 2);
        duePower(x, 2, 0, 0, 1);
        duePower(x, 0, 1, 0, 1);
        duePower(x, 0, 2, 1, 1);
        duePower(x, 1, 2, 0, 1);
    }

    @Says("STAND: the most LAWS of which no two clash")
    static void mostLaws() {
        RideLaws x = Check.riding(EIGHT_LAWS);
        Check.due("stand() without a clash", 8, x.stand());
        Check.due("standing()", 255, x.standing());
        StringBuilder all = new StringBuilder(EIGHT_LAWS);
        for (char one = 'a'; one <= 'h'; one++) {
            for (char other = 'a'; other < one; other++) {
                all.append("clash ").append(one).append(' ').append(other).append(';');
            }
        }
        x = Check.riding(all.toString());
        Check.due("stand() with all clashes", 1, x.stand());
        Check.due("standing()", 1, x.standing());
        x = Check.riding(EIGHT_LAWS + "clash h a;clash h b;clash h c;clash h d;clash h e;clash h f;clash h g;");
        Check.due("stand(), one clashes with all", 7, x.stand());
        Check.due("standing()", 127, x.standing());
        x = Check.riding(EIGHT_LAWS + "clash a b;clash a c;clash a d;clash a e;clash a f;clash a g;");
        Check.due("stand(), one clashes with six", 7, x.stand());
        Check.due("standing()", 254, x.standing());
        x = Check.riding(WORDS + "law a v v;");
        Check.due("stand() of one", 1, x.stand());
    }

    @Says("of like ones the least as bits.")
    static void leastAsBits() {
        RideLaws x = Check.riding(FOUR_LAWS + "clash a b;clash a c;clash d b;clash d c;");
        Check.due("stand() of {a, d} or {b, c}", 2, x.stand());
        Check.due("standing()", 6, x.standing());
        x = Check.riding(FOUR_LAWS + "clash a b;clash c d;");
        Check.due("stand() of two pairs", 2, x.stand());
        Check.due("standing()", 5, x.standing());
        x = Check.riding(FOUR_LAWS + "clash a b;clash a c;clash b d;");
        Check.due("stand() of {b, c}, {a, d} or {c, d}", 2, x.stand());
        Check.due("standing()", 6, x.standing());
    }

    @Says("PART of a RIDER: words that he said by words that were said so far.")
    static void partOf() {
        RideLaws x = Check.riding("ring a 2 2;ring b 2 1;seat s a 0;seat t b 0;word v;rider r s;rider q t;rider p;says r v;says q v;");
        x.ticks(1);
        duePart(x, 0, 1, 1);
        duePart(x, 1, 0, 1);
        x.ticks(1);
        duePart(x, 0, 2, 3);
        duePart(x, 1, 1, 3);
        duePart(x, 2, 0, 1);
        x.alight(0);
        x.whistle();
        duePart(x, 0, 2, 3);
    }

    @Says("MOST: the RIDER who said most words so far (of like ones the first).")
    static void mostWords() {
        RideLaws x = Check.riding("ring a 2 2;ring b 2 1;seat s a 0;seat t b 0;word v;" + SIX.replace("aa", "aa t").replace("ff", "ff s")
                + "says aa v;says ff v;");
        x.ticks(1);
        Check.due("most(), the last", 5, x.most());
        x.alight(5);
        x.ticks(1);
        Check.due("most(), like ones", 0, x.most());
        x.ticks(2);
        Check.due("most(), the first", 0, x.most());
        RideLaws y = Check.riding("ring a 2 2;seat s a 0;word v;rider r s;says r v;");
        y.ticks(1);
        Check.due("most() of one", 0, y.most());
        RideLaws z = Check.riding("ring a 2 2;ring b 2 2;seat s a 0;seat t b 0;word v;rider o;rider r s;rider q t;says r v;says q v;");
        z.ticks(1);
        Check.due("most(), like ones behind one who said nothing", 1, z.most());
    }

    @Says("LINE of a RIDER: his NAME, ' on ' and the SEAT's NAME or ' off'")
    static void lineOnOrOff() {
        RideLaws x = Check.riding("ring a 2 1;seat horse a 1;rider bob horse;rider al;");
        Check.dueText("line(0)", "bob on horse mute", Check.line(x, 0));
        Check.dueText("line(1)", "al off mute", Check.line(x, 1));
        x.alight(0);
        x.mount(1, 0);
        Check.dueText("line(0)", "bob off mute", Check.line(x, 0));
        Check.dueText("line(1)", "al on horse mute", Check.line(x, 1));
    }

    @Says("then ' next ' and the word that he says next, or ' mute'.")
    static void lineNextOrMute() {
        RideLaws x = Check.riding("ring a 2 2;seat horse a 0;word yes;word no;rider bob horse;rider al;says bob yes;says bob no;");
        Check.dueText("line(0)", "bob on horse next yes", Check.line(x, 0));
        x.ticks(1);
        Check.dueText("line(0)", "bob on horse next no", Check.line(x, 0));
        x.ticks(1);
        Check.dueText("line(0)", "bob on horse next yes", Check.line(x, 0));
        x.learn(1, 1);
        Check.dueText("line(1)", "al off next no", Check.line(x, 1));
    }

    @Says("All fractions are told by two numbers: 0 above, 1 below, in least terms.")
    static void fractions() {
        RideLaws x = Check.riding(WORDS + "ring k 2 2;seat s k 0;" + SIX.replace("aa", "aa s") + "says aa v;says bb w;law l v w;law m z z;");
        duePower(x, 0, 0, 1, 2);
        duePower(x, 5, 0, 0, 1);
        duePower(x, 0, 1, 0, 1);
        x.ticks(60);
        duePart(x, 0, 1, 1);
        duePart(x, 1, 0, 1);
        x.alight(0);
        x.mount(1, 0);
        x.ticks(12);
        duePart(x, 0, 5, 6);
        duePart(x, 1, 1, 6);
    }

    @Says(of = 22, value = "ABLE to a LAW: RIDERS, as bits")
    static void able() {
        RideLaws x = Check.riding(WORDS + SIX + "says aa v;says ff v;law l v v;law m w z;");
        Check.due("able(0)", 33, x.able(0));
        Check.due("able(1), nobody", 0, x.able(1));
        RideLaws y = Check.riding(WORDS + "law l v v;");
        Check.due("able(0) without riders", 0, y.able(0));
    }

    @Says(of = 22, value = "NONE: no such one.")
    static void ableNone() {
        RideLaws x = Check.riding(WORDS + SIX + "law l v v;law m w z;");
        Check.due("able(2)", -1, x.able(2));
        for (int far : FAR) {
            Check.due("able(" + far + ")", -1, x.able(far));
        }
        Check.due("able(0) of no ride", -1, new RideLaws().able(0));
    }

    @Says(of = 23, value = "POWER of a RIDER for a LAW.")
    static void power() {
        RideLaws x = Check.riding(EIGHT_LAWS + SIX + "says ff z;says aa w;");
        duePower(x, 5, 7, 1, 2);
        duePower(x, 0, 7, 1, 2);
        duePower(x, 1, 7, 0, 1);
        duePower(x, 0, 4, 1, 1);
    }

    @Says(of = 23, value = "NoSuchElementException: no such ones.")
    static void powerThrows() {
        RideLaws x = Check.riding(WORDS + "rider r;rider q;law l v v;law m w z;");
        for (int far : FAR) {
            Check.dueThrow("power(" + far + ", 0, 0)", () -> x.power(far, 0, 0));
            Check.dueThrow("power(0, " + far + ", 0)", () -> x.power(0, far, 0));
            Check.dueThrow("power(0, 0, " + far + ")", () -> x.power(0, 0, far));
        }
        Check.dueThrow("power(2, 0, 0)", () -> x.power(2, 0, 0));
        Check.dueThrow("power(0, 2, 0)", () -> x.power(0, 2, 0));
        Check.dueThrow("power(0, 0, 2)", () -> x.power(0, 0, 2));
        Check.dueThrow("power(0, 0, 1) of no ride", () -> new RideLaws().power(0, 0, 1));
    }

    @Says(of = 24, value = "STAND: how many LAWS.")
    static void stand() {
        Check.due("stand() of no ride", 0, new RideLaws().stand());
        Check.due("stand() of no law", 0, Check.riding(WORDS).stand());
        Check.due("stand() of four", 4, Check.riding(FOUR_LAWS).stand());
        Check.due("stand() of four with a clash", 3, Check.riding(FOUR_LAWS + "clash b c;").stand());
    }

    @Says(of = 25, value = "Which, as bits, by the latest stand()")
    static void standing() {
        RideLaws x = Check.riding(FOUR_LAWS + "clash b c;");
        x.stand();
        Check.due("standing()", 11, x.standing());
        Check.ride(x, FOUR_LAWS + "clash a b;clash a c;");
        Check.due("standing() of the latest stand()", 11, x.standing());
        x.stand();
        Check.due("standing()", 14, x.standing());
        x.ride();
        Check.due("standing() of the latest stand()", 14, x.standing());
        Check.due("stand() of no law", 0, x.stand());
        Check.due("standing() of no law", 0, x.standing());
    }

    @Says(of = 25, value = "NONE ahead of any.")
    static void standingAhead() {
        Check.due("standing() of a new object", -1, new RideLaws().standing());
        Check.due("standing() of a new ride", -1, Check.riding(FOUR_LAWS).standing());
    }

    @Says(of = 27, value = "PART of a RIDER.")
    static void part() {
        RideLaws x = Check.riding("ring a 2 2;seat s a 0;word v;" + SIX.replace("ff", "ff s") + "says ff v;");
        x.ticks(7);
        duePart(x, 5, 1, 1);
        duePart(x, 0, 0, 1);
    }

    @Says(of = 27, value = "NoSuchElementException: nothing was said, no such ones.")
    static void partThrows() {
        RideLaws x = Check.riding("ring a 2 2;seat s a 0;word v;rider r s;rider q;says r v;");
        Check.dueThrow("part(0, 0), nothing was said", () -> x.part(0, 0));
        Check.dueThrow("part(0, 1), nothing was said", () -> x.part(0, 1));
        x.ticks(1);
        Check.due("part(0, 0)", 1, x.part(0, 0));
        Check.dueThrow("part(2, 0)", () -> x.part(2, 0));
        Check.dueThrow("part(0, 2)", () -> x.part(0, 2));
        for (int far : FAR) {
            Check.dueThrow("part(" + far + ", 0)", () -> x.part(far, 0));
            Check.dueThrow("part(0, " + far + ")", () -> x.part(0, far));
        }
        x.undo();
        Check.dueThrow("part(0, 0), the word was undone", () -> x.part(0, 0));
        Check.dueThrow("part(0, 0) of no ride", () -> new RideLaws().part(0, 0));
    }

    @Says(of = 28, value = "MOST; NONE: nothing was said.")
    static void most() {
        RideLaws x = Check.riding("ring a 2 1;seat s a 0;word v;rider q;rider r s;says r v;");
        Check.due("most()", -1, x.most());
        x.ticks(1);
        Check.due("most(), nothing was said still", -1, x.most());
        x.ticks(1);
        Check.due("most()", 1, x.most());
        x.whistle();
        Check.due("most() behind the whistle", 1, x.most());
        x.ride();
        Check.due("most() of a new ride", -1, x.most());
        Check.due("most() of no ride", -1, new RideLaws().most());
    }

    @Says(of = 29, value = "LINE of a RIDER: how many bytes")
    static void line() {
        RideLaws x = Check.riding("ring a 2 1;seat abcdefg a 1;seat t a 0;word qrstuvw;word z;rider hijklmn abcdefg;rider q;rider p t;"
                + "says hijklmn qrstuvw;");
        Check.due("line(0), the longest", 31, x.line(0));
        Check.due("line(1), the shortest", 10, x.line(1));
        Check.due("line(2)", 11, x.line(2));
        x.learn(1, 1);
        Check.due("line(1)", 12, x.line(1));
    }

    @Says(of = 29, value = "NONE: no such one.")
    static void lineNone() {
        RideLaws x = Check.riding("rider q;rider r;");
        Check.due("line(2)", -1, x.line(2));
        for (int far : FAR) {
            Check.due("line(" + far + ")", -1, x.line(far));
        }
        Check.due("byteAt(0)", -1, x.byteAt(0));
        Check.due("line(0) of no ride", -1, new RideLaws().line(0));
    }

    @Says(of = 30, value = "Byte i of the latest LINE")
    static void byteAt() {
        RideLaws x = Check.riding("ring a 2 1;seat abcdefg a 1;word qrstuvw;rider hijklmn abcdefg;rider z;says hijklmn qrstuvw;");
        x.line(0);
        String want = "hijklmn on abcdefg next qrstuvw";
        for (int i = 0; i < want.length(); i++) {
            Check.due("byteAt(" + i + ")", want.charAt(i), x.byteAt(i));
        }
        x.line(5);
        x.alight(0);
        Check.due("byteAt(8), as it was told", 'o', x.byteAt(8));
        Check.due("byteAt(9), as it was told", 'n', x.byteAt(9));
        x.line(1);
        Check.due("byteAt(0) of the latest", 'z', x.byteAt(0));
        x.ride();
        Check.due("byteAt(2) of another ride", 'o', x.byteAt(2));
    }

    @Says(of = 30, value = "NONE: none such.")
    static void byteNone() {
        RideLaws x = Check.riding("ring a 2 1;seat abcdefg a 1;word qrstuvw;rider hijklmn abcdefg;rider z;says hijklmn qrstuvw;");
        for (int i = -1; i < 33; i++) {
            Check.due("byteAt(" + i + ") ahead of any", -1, x.byteAt(i));
        }
        x.line(0);
        Check.due("byteAt(31)", -1, x.byteAt(31));
        x.line(1);
        Check.due("byteAt(9)", 'e', x.byteAt(9));
        Check.due("byteAt(10), of a longer line ahead", -1, x.byteAt(10));
        Check.due("byteAt(30), of a longer line ahead", -1, x.byteAt(30));
        int[] others = {-1, -2, 32, Integer.MAX_VALUE, Integer.MIN_VALUE};
        for (int i : others) {
            Check.due("byteAt(" + i + ")", -1, x.byteAt(i));
        }
    }
}
