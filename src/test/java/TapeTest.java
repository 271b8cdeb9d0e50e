/** Promises 1, 2, 3 and 39: a new object, feed, end, count. */
public final class TapeTest {
    public static void main(String[] args) {
        aNewObject();
        feeding();
        ending();
        bytesInOrder();
        counting();
        Check.close();
    }

    private static void aNewObject() {
        RideLaws x = new RideLaws();
        for (int what = 0; what <= 5; what++) {
            Check.due("count(" + what + ") of a new object", 0, x.count(what));
        }
        int[] now = {0, -1, -1, 0, 0, 0, 0, 0};
        for (int what = 0; what < now.length; what++) {
            Check.due("now(" + what + ") of a new object", now[what], x.now(what));
        }
        Check.due("fault() ahead of any", 0, x.fault());
        Check.due("told(0) ahead of any", -1, x.told(0));
        Check.due("said(-1) without a sentence", -1, x.said(-1));
        Check.due("aimSeat() ahead of any", -1, x.aimSeat());
        Check.due("standing() ahead of any", -1, x.standing());
        Check.due("byteAt(0) ahead of any", -1, x.byteAt(0));
        Check.due("restore(1) with nothing kept", false, x.restore(1));
    }

    private static void feeding() {
        RideLaws x = new RideLaws();
        for (int i = 1; i <= 47; i++) {
            Check.due("feed " + i, 20 * i, x.feed(0, 0, 0, 0, 0));
        }
        Check.due("feed beyond 940", -1, x.feed(0, 0, 0, 0, 0));
        Check.due("count(5) when full", 940, x.count(5));
        Check.due("end(921)", true, x.end(921));
        Check.due("feed to 941", -1, x.feed(0, 0, 0, 0, 0));
        Check.due("count(5) stays", 921, x.count(5));
        Check.due("end(920)", true, x.end(920));
        Check.due("feed to 940", 940, x.feed(0, 0, 0, 0, 0));
    }

    private static void ending() {
        RideLaws x = new RideLaws();
        Check.due("end(0) of an empty tape", true, x.end(0));
        Check.due("end(1) of an empty tape", false, x.end(1));
        x.feed(1, 2, 3, 4, 5);
        Check.due("end(-1)", false, x.end(-1));
        Check.due("end(21)", false, x.end(21));
        Check.due("end(20)", true, x.end(20));
        Check.due("count(5)", 20, x.count(5));
        Check.due("end(7)", true, x.end(7));
        Check.due("end(8) behind end(7)", false, x.end(8));
        Check.due("count(5) behind end(7)", 7, x.count(5));
        Check.due("feed behind end(7)", 27, x.feed(1, 2, 3, 4, 5));
        Check.due("end(min)", false, x.end(Integer.MIN_VALUE));
        Check.due("end(max)", false, x.end(Integer.MAX_VALUE));
    }

    /** The highest byte of each number comes first, and each number behind the one ahead of it. */
    private static void bytesInOrder() {
        RideLaws x = new RideLaws();
        Check.due("feed", 20, x.feed(0x776f7264, 0x20616263, 0x3b776f72, 0x64206465, 0x3b202020));
        Check.due("ride()", 2, x.ride());
        Check.due("feed a rider", 20, x.feed(0x72696465, 0x72207878, 0x3b202020, 0x20202020, 0x20202020));
        Check.due("end(11)", true, x.end(11));
        x.feed(0x20202020, 0x776f7264, 0x20616263, 0x3b736179, 0x73207878);
        x.feed(0x20616263, 0x3b000000, 0, 0, 0);
        Check.due("end(36)", true, x.end(36));
        Check.due("ride() of a tape that was cut and fed on", 3, x.ride());
        Check.dueText("line(0)", "xx off next abc", Check.line(x, 0));
        Check.due("feed of bytes above 127", 20, x.feed(-1, -1, -1, -1, -1));
        Check.due("ride() of bytes above 127", -1, x.ride());
        Check.due("fault() of bytes above 127", 1, x.fault());
    }

    private static void counting() {
        RideLaws x = Check.riding("ring a 4 1; seat s a 0; seat t a 1; word v; word w; word u; rider r; rider q; rider p;"
                + " rider o; law l v w; law m w v; law n u u; law k u v; law j v u;");
        int[] want = {1, 2, 3, 4, 5};
        for (int what = 0; what < 5; what++) {
            Check.due("count(" + what + ")", want[what], x.count(what));
        }
        Check.due("count(5)", 0, x.count(5));
        Check.due("count(-1)", -1, x.count(-1));
        Check.due("count(6)", -1, x.count(6));
        Check.due("count(min)", -1, x.count(Integer.MIN_VALUE));
        Check.due("count(max)", -1, x.count(Integer.MAX_VALUE));
    }
}
