/** Promises 37 and 38: image, restore. */
public final class ImageTest {
    private static final String TEXT = "ring a 2 1;seat s a 1;seat t a 0;word v;word w;rider r s;rider q;"
            + "says r v;says r w;law l v w;law m w v;clash l m;";

    public static void main(String[] args) {
        wrongPlaces();
        allIsKept();
        twoPlaces();
        toldLastStays();
        imageIsNoLink();
        Check.close();
    }

    private static void wrongPlaces() {
        RideLaws x = Check.riding(TEXT);
        int[] none = {-1, 2, Integer.MAX_VALUE, Integer.MIN_VALUE};
        for (int k : none) {
            Check.due("image(" + k + ")", false, x.image(k));
            Check.due("restore(" + k + ")", false, x.restore(k));
        }
        Check.due("restore(0) of nothing", false, x.restore(0));
        Check.due("image(1)", true, x.image(1));
        Check.due("restore(0) of nothing still", false, x.restore(0));
        Check.due("restore(1)", true, x.restore(1));
    }

    private static void allIsKept() {
        RideLaws x = Check.riding(TEXT);
        Check.sentence(x, "not up");
        x.ticks(3);
        x.whistle();
        x.ticks(4);
        x.mount(1, 1);
        x.learn(1, 1);
        x.image(0);
        x.ticks(9);
        x.alight(0);
        x.learn(1, 0);
        x.whistle();
        Check.ride(x, "ring z 9 2;seat y z 3;word k;rider o y;says o k;law n k k;");
        x.ticks(30);
        Check.due("restore(0)", true, x.restore(0));
        int[] now = {7, 1, 0, 1, 4, 1, 3, 1};
        for (int what = 0; what < now.length; what++) {
            Check.due("now(" + what + ")", now[what], x.now(what));
        }
        int[] count = {1, 2, 2, 2, 2, 0};
        for (int what = 0; what < count.length; what++) {
            Check.due("count(" + what + ")", count[what], x.count(what));
        }
        Check.due("law(0, 3)", 2, x.law(0, 3));
        Check.due("law(0, 4)", 2, x.law(0, 4));
        Check.due("law(0, 0)", 0, x.law(0, 0));
        Check.due("law(0, 1)", 1, x.law(0, 1));
        Check.due("said(-1)", 0, x.said(-1));
        Check.due("rider(1, 1)", 1, x.rider(1, 1));
        Check.dueText("line(0)", "r on s next v", Check.line(x, 0));
        Check.dueText("line(1)", "q on t next w", Check.line(x, 1));
        Check.due("undo()", -1, x.undo());
        Check.due("comes(1)", 1, x.comes(1));
        Check.due("book with the names of the ride", -1, Check.book(x, "q alights;r alights;", 1));
        Check.due("said(-1)", 2, x.said(-1));
        x.ticks(1);
        Check.due("seat(1, 1)", 0, x.seat(1, 1));
    }

    private static void twoPlaces() {
        RideLaws x = Check.riding(TEXT);
        x.image(0);
        x.ticks(5);
        x.image(1);
        x.ticks(5);
        Check.due("restore(0)", true, x.restore(0));
        Check.due("now(0)", 0, x.now(0));
        Check.due("restore(1)", true, x.restore(1));
        Check.due("now(0)", 5, x.now(0));
        x.ticks(1);
        x.image(0);
        x.restore(1);
        x.restore(0);
        Check.due("now(0) of the latest image", 6, x.now(0));
    }

    private static void toldLastStays() {
        RideLaws x = Check.riding(TEXT);
        x.image(0);
        x.learn(1, 1);
        Check.sentence(x, "up");
        Check.book(x, "tick 5;q alights;", 0);
        Check.due("line(0)", 13, x.line(0));
        x.stand();
        Check.due("aim(0, 2)", 1, x.aim(0, 2));
        x.ride();
        x.restore(0);
        Check.ride(x, "word ;");
        Check.tape(x, "tick 1;");
        Check.due("restore(0)", true, x.restore(0));
        Check.due("the tape stays", 7, x.count(5));
        Check.due("fault() stays", 1, x.fault());
        Check.due("told(2) stays", 5, x.told(2));
        Check.due("byteAt(0) stays", 'r', x.byteAt(0));
        Check.due("standing() stays", 1, x.standing());
        Check.due("aimSeat() stays", 1, x.aimSeat());
        Check.due("no sentence was kept", -1, x.said(-1));
        Check.due("the tape is a book", -1, x.book(1));
    }

    private static void imageIsNoLink() {
        RideLaws x = Check.riding(TEXT);
        x.image(0);
        x.restore(0);
        x.ticks(7);
        x.learn(0, 0);
        x.alight(0);
        Check.sentence(x, "up");
        x.restore(0);
        Check.due("now(0)", 0, x.now(0));
        Check.due("rider(0, 1)", 2, x.rider(0, 1));
        Check.due("rider(0, 0)", 0, x.rider(0, 0));
        Check.due("said(-1)", -1, x.said(-1));
        x.ticks(2);
        Check.due("image(0) leaves undo()", true, x.image(0));
        Check.due("undo()", 0, x.undo());
    }
}
