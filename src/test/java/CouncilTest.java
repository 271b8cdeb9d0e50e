/** Promises 22 to 25, 27 and 28: able, power, stand, standing, part, most. */
public final class CouncilTest {
    public static void main(String[] args) {
        ableOnes();
        powers();
        powersOfSix();
        stands();
        leastOfLikeStands();
        parts();
        mosts();
        Check.close();
    }

    private static void ableOnes() {
        RideLaws x = Check.riding("word v;word w;word z;rider r;rider q;rider p;rider o;says r v;says q z;says q w;says o v;says o w;"
                + "law l v w;law m z z;law n v v;");
        Check.due("able(0)", 11, x.able(0));
        Check.due("able(1)", 2, x.able(1));
        Check.due("able(2)", 9, x.able(2));
        Check.due("able(3)", -1, x.able(3));
        Check.due("able(-1)", -1, x.able(-1));
        x.learn(2, 2);
        Check.due("able(1) behind learning", 6, x.able(1));
        Check.due("able(0) of no ride", -1, new RideLaws().able(0));
    }

    private static void duePower(RideLaws x, int r, int l, int above, int below) {
        Check.due("power(" + r + ", " + l + ", 0)", above, x.power(r, l, 0));
        Check.due("power(" + r + ", " + l + ", 1)", below, x.power(r, l, 1));
    }

    private static void powers() {
        RideLaws x = Check.riding("word v;word w;word z;rider r;rider q;rider p;says r v;says q w;says p v;says p w;"
                + "law l v w;law m v v;law n z v;");
        // r turns {q} alone; q turns {r} alone; p turns {}, {r} and {q}.
        duePower(x, 0, 0, 1, 4);
        duePower(x, 1, 0, 1, 4);
        duePower(x, 2, 0, 3, 4);
        // Of v and v: r turns {} and {q}, q none, p {} and {q}.
        duePower(x, 0, 1, 1, 2);
        duePower(x, 1, 1, 0, 1);
        duePower(x, 2, 1, 1, 2);
        duePower(x, 2, 2, 0, 1);
        Check.dueThrow("power(3, 0, 0)", () -> x.power(3, 0, 0));
        Check.dueThrow("power(-1, 0, 0)", () -> x.power(-1, 0, 0));
        Check.dueThrow("power(0, 3, 0)", () -> x.power(0, 3, 0));
        Check.dueThrow("power(0, -1, 0)", () -> x.power(0, -1, 0));
        Check.dueThrow("power(0, 0, 2)", () -> x.power(0, 0, 2));
        Check.dueThrow("power(0, 0, -1)", () -> x.power(0, 0, -1));
        Check.dueThrow("power(0, 0, 0) of no ride", () -> new RideLaws().power(0, 0, 0));
        RideLaws y = Check.riding("word v;rider r;law l v v;");
        duePower(y, 0, 0, 0, 1);
        y.learn(0, 0);
        duePower(y, 0, 0, 1, 1);
    }

    private static void powersOfSix() {
        RideLaws x = Check.riding("word v;word w;rider r;rider q;rider p;rider o;rider n;rider m;"
                + "says r v;says q v;says p v;says o w;says n w;says m w;law l v w;");
        // r turns sets with neither q nor p, but o, n or m: 7 of 32.
        duePower(x, 0, 0, 7, 32);
        duePower(x, 5, 0, 7, 32);
        x.learn(5, 0);
        // m, who knows both, turns all sets but those with a v and a w: 32 less 7 times 3.
        duePower(x, 5, 0, 11, 32);
    }

    private static void stands() {
        RideLaws x = new RideLaws();
        Check.due("standing() ahead of any", -1, x.standing());
        Check.due("stand() of no ride", 0, x.stand());
        Check.due("standing() of no ride", 0, x.standing());
        String laws = "word v;word w;word z;law a v v;law b v w;law c v z;law d w v;law e w w;";
        Check.ride(x, laws);
        Check.due("standing() of the latest stand()", 0, x.standing());
        Check.due("stand() without a clash", 5, x.stand());
        Check.due("standing() without a clash", 31, x.standing());
        Check.ride(x, laws + "clash a b;clash a c;clash a d;clash d e;");
        Check.due("stand()", 3, x.stand());
        Check.due("standing()", 14, x.standing());
    }

    private static void leastOfLikeStands() {
        String laws = "word v;word w;word z;law a v v;law b v w;law c v z;law d w v;";
        RideLaws x = Check.riding(laws + "clash a b;clash b c;clash c d;clash d a;");
        Check.due("stand() round", 2, x.stand());
        Check.due("standing() round", 5, x.standing());
        Check.ride(x, laws + "clash a b;clash c d;");
        Check.due("stand() of pairs", 2, x.stand());
        Check.due("standing() of pairs", 5, x.standing());
        Check.ride(x, laws + "clash a b;clash a c;clash a d;clash b c;clash b d;clash c d;");
        Check.due("stand() with all clashes", 1, x.stand());
        Check.due("standing() with all clashes", 1, x.standing());
        Check.ride(x, laws + "clash a c;clash a d;clash b c;");
        Check.due("stand() of a chain", 2, x.stand());
        Check.due("standing() of a chain", 3, x.standing());
    }

    private static void duePart(RideLaws x, int r, int above, int below) {
        Check.due("part(" + r + ", 0)", above, x.part(r, 0));
        Check.due("part(" + r + ", 1)", below, x.part(r, 1));
    }

    private static void parts() {
        RideLaws x = Check.riding("ring a 2 1;ring b 4 1;ring c 6 1;seat s a 0;seat t b 0;seat u c 0;word v;"
                + "rider r s;rider q t;rider p u;rider o;says r v;says q v;says p v;says o v;");
        Check.dueThrow("part(0, 0), nothing was said", () -> x.part(0, 0));
        x.ticks(12);
        duePart(x, 0, 6, 11);
        duePart(x, 1, 3, 11);
        duePart(x, 2, 2, 11);
        duePart(x, 3, 0, 1);
        x.alight(2);
        x.ticks(4);
        duePart(x, 0, 4, 7);
        duePart(x, 1, 2, 7);
        duePart(x, 2, 1, 7);
        x.whistle();
        duePart(x, 0, 4, 7);
        Check.dueThrow("part(4, 0)", () -> x.part(4, 0));
        Check.dueThrow("part(-1, 0)", () -> x.part(-1, 0));
        Check.dueThrow("part(0, 2)", () -> x.part(0, 2));
        Check.dueThrow("part(0, -1)", () -> x.part(0, -1));
    }

    private static void mosts() {
        RideLaws x = Check.riding("ring a 2 1;ring b 3 1;seat s a 0;seat t b 0;word v;rider o;rider q t;rider r s;says r v;says q v;");
        Check.due("most(), nothing was said", -1, x.most());
        x.ticks(2);
        Check.due("most()", 2, x.most());
        x.ticks(1);
        Check.due("most() of like ones", 1, x.most());
        x.ticks(1);
        Check.due("most() again", 2, x.most());
        x.whistle();
        Check.due("most() behind the whistle", 2, x.most());
    }
}
