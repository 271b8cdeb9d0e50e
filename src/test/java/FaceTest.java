import java.io.IOException;
import java.lang.reflect.Constructor;
import java.lang.reflect.Field;
import java.lang.reflect.Method;
import java.lang.reflect.Modifier;
import java.nio.file.Files;
import java.nio.file.Path;
import java.util.ArrayList;
import java.util.List;
import java.util.TreeSet;
import java.util.regex.Matcher;
import java.util.regex.Pattern;

/** The public face, and rules of LANGUAGE.md that can be seen from outside or in the source's text. */
public final class FaceTest {
    private static final String FACE = "int feed(int,int,int,int,int) boolean end(int) int ride() int fault() int rider(int,int)!"
            + " int roll(int,int) int seat(int,int) int law(int,int) int now(int) int mount(int,int) int alight(int) int learn(int,int)"
            + " int whistle() int ticks(int) int undo() int comes(int) int both(int,int) int holds(int) int aim(int,int) int aimSeat()"
            + " int able(int) int power(int,int,int)! int stand() int standing() int all() int part(int,int)! int most() int line(int)"
            + " int byteAt(int) int drawn(int,int) int odds(int,int,int) int book(int) int told(int) int sentence() int said(int)"
            + " boolean image(int) boolean restore(int) int count(int)";

    public static void main(String[] args) throws IOException {
        face();
        source(Files.readString(Path.of("src/main/java/RideLaws.java")));
        noNewObjects();
        Check.close();
    }

    private static void face() {
        TreeSet<String> want = new TreeSet<>();
        Matcher m = Pattern.compile("\\S+ \\S+").matcher(FACE);
        while (m.find()) {
            want.add(m.group());
        }
        TreeSet<String> got = new TreeSet<>();
        for (Method method : RideLaws.class.getDeclaredMethods()) {
            if (!Modifier.isPrivate(method.getModifiers())) {
                got.add(signature(method));
                Check.due(method.getName() + " is public and of the object", Modifier.PUBLIC, method.getModifiers());
            } else {
                Check.due("a private method bears a public name: " + method.getName(), false,
                        FACE.contains(" " + method.getName() + "("));
            }
        }
        Check.dueText("the methods", want.toString(), got.toString());
        for (Field field : RideLaws.class.getDeclaredFields()) {
            Check.due(field.getName() + " is private", !field.getName().equals("NONE"), Modifier.isPrivate(field.getModifiers()));
        }
        Check.due("NONE", -1, RideLaws.NONE);
        Check.due("RideLaws is public and final", Modifier.PUBLIC | Modifier.FINAL, RideLaws.class.getModifiers());
        Constructor<?>[] constructors = RideLaws.class.getDeclaredConstructors();
        Check.due("one constructor", 1, constructors.length);
        Check.due("it is public", Modifier.PUBLIC, constructors[0].getModifiers());
    }

    private static String signature(Method method) {
        List<String> types = new ArrayList<>();
        for (Class<?> type : method.getParameterTypes()) {
            types.add(type.getName());
        }
        String thrown = method.getExceptionTypes().length > 0 ? "!" : "";
        return method.getReturnType().getName() + " " + method.getName() + "(" + String.join(",", types) + ")" + thrown;
    }

    private static void source(String text) {
        String[] never = {"->", "::", "catch", "finally", "synchronized", "assert ", "instanceof", "protected", "System.out", "import java.io",
            "import java.nio", "Object", "var ", "Random", "static {"};
        for (String word : never) {
            Check.due("the source holds " + word, -1, text.indexOf(word));
        }
        Matcher imports = Pattern.compile("(?m)^import (.*);$").matcher(text);
        while (imports.find()) {
            Check.due("import " + imports.group(1), true, imports.group(1).matches("java.util.(Arrays|NoSuchElementException)"));
        }
        Matcher classes = Pattern.compile("(?m)^ *(private static|public) final class ").matcher(text);
        int many = 0;
        while (classes.find()) {
            many++;
        }
        Check.due("twelve classes at most", true, many <= 12);
        longMethods(text.split("\n"));
    }

    private static void longMethods(String[] lines) {
        int from = 0;
        for (int i = 0; i < lines.length; i++) {
            if (lines[i].matches("( {4}| {8})\\S[^=;]*\\) (throws \\w+ )?\\{")) {
                from = i;
            }
            if (lines[i].matches("( {4}| {8})\\}")) {
                Check.due("the method of line " + (from + 1) + " is short", true, i - from < 60);
            }
        }
        for (int i = 0; i < lines.length; i++) {
            boolean made = lines[i].contains(" new ") && !lines[i].contains("/**") && !lines[i].contains("throw new NoSuchElementException(");
            boolean atMaking = lines[i].contains(" final ") || lines[i].contains("before[i] = new State()");
            Check.due("line " + (i + 1) + " makes an object in a call", false, made && !atMaking);
        }
    }

    /** All rows are made by the constructor: calls make nothing. */
    private static void noNewObjects() {
        com.sun.management.ThreadMXBean bean = (com.sun.management.ThreadMXBean) java.lang.management.ManagementFactory.getThreadMXBean();
        RideLaws x = Check.riding("ring a 3 1;seat s a 0;seat t a 1;word v;word w;rider r s;rider q;says r v;says q w;law l v w;");
        long before = 0;
        for (int round = 0; round < 3; round++) {
            before = bean.getCurrentThreadAllocatedBytes();
            allCalls(x);
        }
        long made = bean.getCurrentThreadAllocatedBytes() - before;
        Check.due("bytes made by a round of calls are few: " + made, true, made < 512);
    }

    private static void allCalls(RideLaws x) {
        x.mount(1, 1);
        x.learn(1, 0);
        x.ticks(9);
        x.drawn(9, 9);
        x.whistle();
        x.alight(1);
        x.undo();
        x.comes(0);
        x.both(0, 1);
        x.holds(0);
        x.aim(0, 99);
        x.able(0);
        x.power(0, 0, 0);
        x.stand();
        x.all();
        x.most();
        x.line(0);
        x.odds(0, 30, 1);
        x.feed(0x7469636b, 0x20353b20, 0x20202020, 0x20202020, 0x20202020);
        x.book(1);
        x.feed(0x6e6f7420, 0x75702020, 0x20202020, 0x20202020, 0x20202020);
        x.sentence();
        x.said(-1);
        x.image(0);
        x.restore(0);
    }
}
