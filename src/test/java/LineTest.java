/** Promises 29 and 30: line, byteAt. */
public final class LineTest {
    public static void main(String[] args) {
        RideLaws x = Check.riding("ring a 2 1;seat abcdefg a 1;seat t a 0;word qrstuvw;word z;rider hijklmn abcdefg;rider q;"
                + "says hijklmn qrstuvw;says hijklmn z;");
        Check.due("byteAt(0) ahead of any", -1, x.byteAt(0));
        Check.due("line(2)", -1, x.line(2));
        Check.due("line(-1)", -1, x.line(-1));
        Check.due("line(0) of the longest names", 31, x.line(0));
        Check.dueText("line(0)", "hijklmn on abcdefg next qrstuvw", Check.line(x, 0));
        Check.due("byteAt(30)", 'w', x.byteAt(30));
        Check.due("byteAt(31)", -1, x.byteAt(31));
        Check.due("byteAt(-1)", -1, x.byteAt(-1));
        Check.due("byteAt(max)", -1, x.byteAt(Integer.MAX_VALUE));
        Check.dueText("line(1)", "q off mute", Check.line(x, 1));
        Check.due("byteAt(9)", 'e', x.byteAt(9));
        Check.due("byteAt(10) of a shorter line", -1, x.byteAt(10));
        Check.due("line(5)", -1, x.line(5));
        Check.due("byteAt(0) of the latest line", 'q', x.byteAt(0));
        x.ticks(1);
        x.mount(1, 1);
        Check.due("the line is as it was told", 'f', x.byteAt(3));
        Check.dueText("line(0) behind a word", "hijklmn on abcdefg next z", Check.line(x, 0));
        Check.dueText("line(1) on a seat", "q on t mute", Check.line(x, 1));
        x.alight(0);
        x.learn(1, 1);
        Check.dueText("line(0) off", "hijklmn off next z", Check.line(x, 0));
        Check.dueText("line(1) with a roll", "q on t next z", Check.line(x, 1));
        Check.due("ride()", 0, x.ride());
        Check.due("line(0) of no ride", -1, x.line(0));
        Check.due("byteAt(0) still", 'q', x.byteAt(0));
        Check.close();
    }
}
