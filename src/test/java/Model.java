import java.util.ArrayList;
import java.util.Arrays;
import java.util.HashMap;
import java.util.List;
import java.util.Map;
import java.util.NoSuchElementException;
import java.util.Set;

/** The document told a second time, without a thought of speed or room: ModelTest plays RideLaws against it. */
final class Model {
    private static final Set<String> KEYS = Set.of("ring", "seat", "word", "rider", "says", "law", "clash", "mounts", "alights",
            "learns", "whistle", "tick", "or", "and", "not", "up", "mute", "latest", "on", "knows", "said", "roll", "number");

    static final class Fault extends RuntimeException {
        private static final long serialVersionUID = 1L;
        final int kind;
        final int place;

        Fault(int kind, int place) {
            this.kind = kind;
            this.place = place;
        }
    }

    record Token(String text, int place) {
        boolean isName() {
            return text.matches("[a-z]{1,7}") && !KEYS.contains(text);
        }

        boolean isNumber() {
            return text.matches("[0-9]{1,3}");
        }
    }

    /** Name with sort ('r'ing, 's'eat, 'w'ord, 'p'erson, 'l'aw) and number. */
    record Named(char sort, int number) {
    }

    interface Cond {
        boolean of(World w, int rider);
    }

    static final class World {
        Map<String, Named> names = new HashMap<>();
        List<int[]> rings = new ArrayList<>();
        List<int[]> seats = new ArrayList<>(); // ring, at
        int words = 0;
        List<Integer> on = new ArrayList<>();
        List<List<Integer>> rolls = new ArrayList<>();
        List<Integer> next = new ArrayList<>();
        List<Integer> said = new ArrayList<>();
        List<int[]> laws = new ArrayList<>(); // first, second, holds, often
        List<int[]> clashes = new ArrayList<>();
        int tick = 0;
        int latest = -1;
        int by = -1;
        int whistles = 0;
        Cond cond = null;

        World copy() {
            World w = new World();
            w.names = names;
            w.rings = rings;
            for (int[] s : seats) {
                w.seats.add(s.clone());
            }
            w.words = words;
            w.on.addAll(on);
            for (List<Integer> roll : rolls) {
                w.rolls.add(new ArrayList<>(roll));
            }
            w.next.addAll(next);
            w.said.addAll(said);
            for (int[] l : laws) {
                w.laws.add(l.clone());
            }
            w.clashes = clashes;
            w.tick = tick;
            w.latest = latest;
            w.by = by;
            w.whistles = whistles;
            w.cond = cond;
            return w;
        }

        int mount(int r, int s) {
            if (on.get(r) >= 0) {
                return 1;
            }
            if (on.contains(s)) {
                return 2;
            }
            on.set(r, s);
            return 0;
        }

        int alight(int r) {
            return on.set(r, -1) < 0 ? 1 : 0;
        }

        int learn(int r, int w) {
            if (rolls.get(r).size() == 6) {
                return 1;
            }
            rolls.get(r).add(w);
            return 0;
        }

        int whistle() {
            if (latest < 0 && holding() == 0) {
                return 1;
            }
            for (int[] l : laws) {
                l[2] = 0;
            }
            latest = -1;
            by = -1;
            next.replaceAll(n -> 0);
            whistles++;
            return 0;
        }

        int holding() {
            int bits = 0;
            for (int i = 0; i < laws.size(); i++) {
                bits += laws.get(i)[2] << i;
            }
            return bits;
        }

        void turn() {
            for (int[] s : seats) {
                int[] ring = rings.get(s[0]);
                s[1] = (s[1] + ring[1]) % ring[0];
            }
            for (int s = 0; s < seats.size(); s++) {
                int r = on.indexOf(s);
                if (seats.get(s)[1] == 0 && r >= 0 && !rolls.get(r).isEmpty()) {
                    say(r);
                }
            }
            tick++;
        }

        private void say(int r) {
            List<Integer> roll = rolls.get(r);
            int word = roll.get(next.get(r));
            next.set(r, (next.get(r) + 1) % roll.size());
            said.set(r, said.get(r) + 1);
            for (int l = 0; l < laws.size(); l++) {
                int[] law = laws.get(l);
                if (law[0] == latest && law[1] == word) {
                    law[2] = 1;
                    law[3]++;
                    for (int[] c : clashes) {
                        if (c[0] == l) {
                            laws.get(c[1])[2] = 0;
                        } else if (c[1] == l) {
                            laws.get(c[0])[2] = 0;
                        }
                    }
                }
            }
            latest = word;
            by = r;
        }

        int drawn(int seed) {
            int x = seed * 1103515245 + 12345;
            int act = (x >>> 8) % 12;
            int riders = on.size();
            if (act < 2) {
                int others = act == 0 ? seats.size() : words;
                if (riders > 0 && others > 0) {
                    x = x * 1103515245 + 12345;
                    int r = (x >>> 8) % riders;
                    x = x * 1103515245 + 12345;
                    int other = (x >>> 8) % others;
                    if (act == 1) {
                        learn(r, other);
                    } else if (on.get(r) >= 0) {
                        alight(r);
                    } else {
                        mount(r, other);
                    }
                }
            } else if (act == 2) {
                whistle();
            }
            turn();
            return x;
        }

        int spoken() {
            return said.stream().mapToInt(Integer::intValue).sum();
        }

        int knows(int r) {
            int bits = 0;
            for (int w : rolls.get(r)) {
                bits |= 1 << w;
            }
            return bits;
        }
    }

    private byte[] tape = new byte[0];
    private World now = new World();
    private final List<World> undo = new ArrayList<>();
    private final World[] images = new World[2];
    private List<Token> tokens;
    private int at;
    private int fault = 0;
    private int aimSeat = -1;
    private int standing = -1;
    private String line = "";
    private int[] told = {-1, -1, -1, -1};
    private int ones;

    // The tape

    int feed(int a, int b, int c, int d, int e) {
        if (tape.length + 20 > 940) {
            return -1;
        }
        java.nio.ByteBuffer twenty = java.nio.ByteBuffer.allocate(tape.length + 20);
        twenty.put(tape).putInt(a).putInt(b).putInt(c).putInt(d).putInt(e);
        tape = twenty.array();
        return tape.length;
    }

    boolean end(int n) {
        if (n < 0 || n > tape.length) {
            return false;
        }
        tape = Arrays.copyOf(tape, n);
        return true;
    }

    // Texts

    private void open(int most) {
        String text = new String(tape, java.nio.charset.StandardCharsets.ISO_8859_1);
        tape = new byte[0];
        tokens = new ArrayList<>();
        at = 0;
        java.util.regex.Matcher m = java.util.regex.Pattern.compile("[a-z0-9]+|[^ \n]", java.util.regex.Pattern.DOTALL).matcher(text);
        while (m.find() && !(text.length() > most && m.start() >= most)) {
            tokens.add(new Token(m.group(), m.start()));
        }
        tokens.add(text.length() > most ? new Token("TOO LONG", most) : new Token("", text.length()));
    }

    private Token peek() {
        return tokens.get(at);
    }

    private boolean is(String text) {
        return peek().text.equals(text);
    }

    private Fault bad(int kind) {
        return new Fault(kind, peek().place);
    }

    private void expect(String text) {
        if (!is(text)) {
            throw bad(1);
        }
        at++;
    }

    private int number(int low, int high) {
        if (!peek().isNumber()) {
            throw bad(1);
        }
        int n = Integer.parseInt(peek().text);
        if (n < low || n > high) {
            throw bad(2);
        }
        return n;
    }

    private int named(World w, char sort) {
        if (!peek().isName()) {
            throw bad(1);
        }
        Named named = w.names.get(peek().text);
        if (named == null || named.sort != sort) {
            throw bad(3);
        }
        return named.number;
    }

    private String newName(World w) {
        if (!peek().isName()) {
            throw bad(1);
        }
        if (w.names.containsKey(peek().text)) {
            throw bad(3);
        }
        return tokens.get(at++).text;
    }

    private void room(int there, int most) {
        if (there >= most) {
            throw bad(4);
        }
        at++;
    }

    int ride() {
        open(900);
        World w = new World();
        int lines = 0;
        try {
            while (!is("")) {
                rideLine(w);
                expect(";");
                lines++;
            }
        } catch (Fault f) {
            fault = f.kind;
            return -1 - f.place;
        }
        fault = 0;
        now = w;
        undo.clear();
        return lines;
    }

    private void rideLine(World w) {
        switch (peek().text) {
            case "ring" -> {
                room(w.rings.size(), 3);
                String name = newName(w);
                int steps = number(2, 30);
                at++;
                int speed = number(1, 9);
                at++;
                w.names.put(name, new Named('r', w.rings.size()));
                w.rings.add(new int[] {steps, speed});
            }
            case "seat" -> {
                room(w.seats.size(), 8);
                String name = newName(w);
                int ring = named(w, 'r');
                at++;
                int step = number(0, w.rings.get(ring)[0] - 1);
                for (int[] s : w.seats) {
                    if (s[0] == ring && s[1] == step) {
                        throw bad(3);
                    }
                }
                at++;
                w.names.put(name, new Named('s', w.seats.size()));
                w.seats.add(new int[] {ring, step});
            }
            case "word" -> {
                room(w.words, 8);
                w.names.put(newName(w), new Named('w', w.words++));
            }
            case "rider" -> {
                room(w.on.size(), 6);
                String name = newName(w);
                int seat = -1;
                if (!is(";")) {
                    seat = named(w, 's');
                    if (w.on.contains(seat)) {
                        throw bad(3);
                    }
                    at++;
                }
                w.names.put(name, new Named('p', w.on.size()));
                w.on.add(seat);
                w.rolls.add(new ArrayList<>());
                w.next.add(0);
                w.said.add(0);
            }
            case "says" -> {
                at++;
                int rider = named(w, 'p');
                room(w.rolls.get(rider).size(), 6);
                w.rolls.get(rider).add(named(w, 'w'));
                at++;
            }
            case "law" -> {
                room(w.laws.size(), 8);
                String name = newName(w);
                int first = named(w, 'w');
                at++;
                int second = named(w, 'w');
                for (int[] l : w.laws) {
                    if (l[0] == first && l[1] == second) {
                        throw bad(3);
                    }
                }
                at++;
                w.names.put(name, new Named('l', w.laws.size()));
                w.laws.add(new int[] {first, second, 0, 0});
            }
            case "clash" -> {
                at++;
                int one = named(w, 'l');
                at++;
                int other = named(w, 'l');
                boolean known = one == other;
                for (int[] c : w.clashes) {
                    known |= c[0] == one && c[1] == other || c[0] == other && c[1] == one;
                }
                if (known) {
                    throw bad(3);
                }
                at++;
                w.clashes.add(new int[] {one, other});
            }
            default -> throw bad(1);
        }
    }

    int book(int lives) {
        if (lives != 0 && lives != 1) {
            return -1000;
        }
        open(400);
        List<int[]> lines = new ArrayList<>();
        try {
            while (!is("")) {
                lines.add(bookLine(lines.size()));
                expect(";");
            }
        } catch (Fault f) {
            fault = f.kind;
            return -2 - f.place;
        }
        fault = 0;
        World w = now.copy();
        int good = 0;
        int why = 0;
        for (int[] l : lines) {
            why = live(w, l);
            if (why != 0) {
                break;
            }
            good++;
        }
        told = new int[] {why, good, w.tick, w.holding()};
        if (lives == 1 && good > 0) {
            keep();
            now = w;
        }
        return why == 0 ? -1 : good;
    }

    private int[] bookLine(int lines) {
        boolean other = is("whistle") || is("tick");
        int rider = other ? -1 : named(now, 'p');
        String first = peek().text;
        room(lines, 40);
        if (first.equals("whistle") && other) {
            return new int[] {3};
        }
        if (other) {
            int n = number(1, 60);
            at++;
            return new int[] {4, n};
        }
        String act = peek().text;
        if (!List.of("mounts", "alights", "learns").contains(act)) {
            throw bad(1);
        }
        at++;
        if (act.equals("alights")) {
            return new int[] {1, rider};
        }
        int what = named(now, act.equals("mounts") ? 's' : 'w');
        at++;
        return new int[] {act.equals("mounts") ? 0 : 2, rider, what};
    }

    private static int live(World w, int[] l) {
        switch (l[0]) {
            case 0:
                return w.mount(l[1], l[2]);
            case 1:
                return w.alight(l[1]) == 0 ? 0 : 11;
            case 2:
                return w.learn(l[1], l[2]) == 0 ? 0 : 21;
            case 3:
                return w.whistle() == 0 ? 0 : 31;
            default:
                if (w.tick + l[1] > 1000) {
                    return 41;
                }
                for (int i = 0; i < l[1]; i++) {
                    w.turn();
                }
                return 0;
        }
    }

    int sentence() {
        open(200);
        ones = 0;
        try {
            Cond cond = cond(1);
            expect("");
            fault = 0;
            now.cond = cond;
            for (World w : undo) {
                w.cond = cond;
            }
            return ones;
        } catch (Fault f) {
            fault = f.kind;
            return -1 - f.place;
        }
    }

    private Cond cond(int depth) {
        Cond left = every(depth);
        while (is("or")) {
            at++;
            Cond a = left;
            Cond b = every(depth);
            left = (w, r) -> a.of(w, r) || b.of(w, r);
        }
        return left;
    }

    private Cond every(int depth) {
        Cond left = one(depth);
        while (is("and")) {
            at++;
            Cond a = left;
            Cond b = one(depth);
            left = (w, r) -> a.of(w, r) && b.of(w, r);
        }
        return left;
    }

    private Cond one(int depth) {
        String first = peek().text;
        if (!Set.of("not", "(", "up", "mute", "latest", "on", "knows", "said", "roll", "number").contains(first)) {
            throw bad(1);
        }
        if (depth > 8) {
            throw bad(4);
        }
        room(ones, 20);
        ones++;
        switch (first) {
            case "not": {
                Cond inner = one(depth + 1);
                return (w, r) -> !inner.of(w, r);
            }
            case "(": {
                Cond inner = cond(depth + 1);
                expect(")");
                return inner;
            }
            case "up":
                return (w, r) -> w.on.get(r) >= 0;
            case "mute":
                return (w, r) -> w.rolls.get(r).isEmpty();
            case "latest":
                return (w, r) -> w.by == r;
            case "on": {
                int s = named(now, 's');
                at++;
                return (w, r) -> w.on.get(r) == s;
            }
            case "knows": {
                int word = named(now, 'w');
                at++;
                return (w, r) -> w.rolls.get(r).contains(word);
            }
            default:
                return compared(first);
        }
    }

    private Cond compared(String first) {
        String sign = peek().text;
        if (!Set.of("<", "=", ">").contains(sign)) {
            throw bad(1);
        }
        at++;
        int n = number(0, 999);
        at++;
        return (w, r) -> {
            int left = first.equals("said") ? w.said.get(r) : first.equals("roll") ? w.rolls.get(r).size() : r;
            return sign.equals("<") ? left < n : sign.equals("=") ? left == n : left > n;
        };
    }

    // Questions and acts

    private static boolean in(int n, int many) {
        return n >= 0 && n < many;
    }

    int fault() {
        return fault;
    }

    int rider(int r, int what) {
        if (!in(r, now.on.size()) || !in(what, 5)) {
            throw new NoSuchElementException();
        }
        List<Integer> roll = now.rolls.get(r);
        int[] all = {now.on.get(r), roll.size(), roll.isEmpty() ? -1 : roll.get(now.next.get(r)), now.said.get(r), now.knows(r)};
        return all[what];
    }

    int roll(int r, int k) {
        return in(r, now.on.size()) && in(k, now.rolls.get(r).size()) ? now.rolls.get(r).get(k) : -1;
    }

    int seat(int s, int what) {
        if (!in(s, now.seats.size()) || !in(what, 3)) {
            return -1;
        }
        return what == 2 ? now.on.indexOf(s) : now.seats.get(s)[what];
    }

    int law(int l, int what) {
        if (!in(l, now.laws.size()) || !in(what, 5)) {
            return -1;
        }
        if (what == 3) {
            int bits = 0;
            for (int[] c : now.clashes) {
                bits |= c[0] == l ? 1 << c[1] : c[1] == l ? 1 << c[0] : 0;
            }
            return bits;
        }
        return now.laws.get(l)[what == 4 ? 3 : what];
    }

    int now(int what) {
        int box = 0;
        int taken = 0;
        for (int s = 0; s < now.seats.size(); s++) {
            box |= now.seats.get(s)[1] == 0 ? 1 << s : 0;
            taken |= now.on.contains(s) ? 1 << s : 0;
        }
        int[] all = {now.tick, now.latest, now.by, now.holding(), now.spoken(), box, taken, now.whistles};
        return in(what, 8) ? all[what] : -1;
    }

    private void keep() {
        undo.add(now.copy());
        if (undo.size() > 8) {
            undo.remove(0);
        }
    }

    private int act(World tried, int why) {
        if (why == 0) {
            keep();
            now = tried;
        }
        return why;
    }

    int mount(int r, int s) {
        World w = now.copy();
        return in(r, now.on.size()) && in(s, now.seats.size()) ? act(w, w.mount(r, s)) : -1;
    }

    int alight(int r) {
        World w = now.copy();
        return in(r, now.on.size()) ? act(w, w.alight(r)) : -1;
    }

    int learn(int r, int word) {
        World w = now.copy();
        return in(r, now.on.size()) && in(word, now.words) ? act(w, w.learn(r, word)) : -1;
    }

    int whistle() {
        World w = now.copy();
        return act(w, w.whistle());
    }

    int ticks(int n) {
        if (n < 1 || n > 60) {
            return -1;
        }
        World w = now.copy();
        int gone = 0;
        while (gone < n && w.tick < 1000) {
            w.turn();
            gone++;
        }
        act(w, gone > 0 ? 0 : 1);
        return gone;
    }

    int undo() {
        if (undo.isEmpty()) {
            return -1;
        }
        now = undo.remove(undo.size() - 1);
        return undo.size();
    }

    int comes(int s) {
        World w = now.copy();
        for (int i = 0; in(s, now.seats.size()) && i < 2000; i++) {
            if (w.seats.get(s)[1] == 0) {
                return i;
            }
            w.turn();
        }
        return -1;
    }

    int both(int s, int t) {
        World w = now.copy();
        for (int i = 0; in(s, now.seats.size()) && in(t, now.seats.size()) && s != t && i < 2000; i++) {
            if (w.seats.get(s)[1] == 0 && w.seats.get(t)[1] == 0) {
                return i;
            }
            w.turn();
        }
        return -1;
    }

    int holds(int l) {
        World w = now.copy();
        for (int i = 0; in(l, now.laws.size()) && i <= 300; i++) {
            if (w.laws.get(l)[2] == 1) {
                return i;
            }
            w.turn();
        }
        return -1;
    }

    int aim(int l, int n) {
        if (!in(l, now.laws.size()) || n < 1 || n > 99) {
            return -1;
        }
        for (int r = 0; r < now.on.size(); r++) {
            for (int s = 0; s < now.seats.size(); s++) {
                World w = now.copy();
                if (w.mount(r, s) == 0) {
                    for (int i = 0; i < n; i++) {
                        w.turn();
                        if (w.laws.get(l)[2] == 1) {
                            aimSeat = s;
                            return r;
                        }
                    }
                }
            }
        }
        return -1;
    }

    int aimSeat() {
        return aimSeat;
    }

    private boolean known(int word, int set) {
        for (int r = 0; r < now.on.size(); r++) {
            if ((set >> r & 1) == 1 && now.rolls.get(r).contains(word)) {
                return true;
            }
        }
        return false;
    }

    int able(int l) {
        if (!in(l, now.laws.size())) {
            return -1;
        }
        int bits = 0;
        for (int r = 0; r < now.on.size(); r++) {
            if (known(now.laws.get(l)[0], 1 << r) || known(now.laws.get(l)[1], 1 << r)) {
                bits |= 1 << r;
            }
        }
        return bits;
    }

    private static int fraction(int above, int below, int what) {
        for (int d = below; d > 1; d--) {
            if (above % d == 0 && below % d == 0) {
                return (what == 0 ? above : below) / d;
            }
        }
        return what == 0 ? above : below;
    }

    int power(int r, int l, int what) {
        if (!in(r, now.on.size()) || !in(l, now.laws.size()) || !in(what, 2)) {
            throw new NoSuchElementException();
        }
        int[] law = now.laws.get(l);
        int sets = 0;
        int turned = 0;
        for (int set = 0; set < 1 << now.on.size(); set++) {
            if ((set >> r & 1) == 1) {
                continue;
            }
            sets++;
            boolean without = known(law[0], set) && known(law[1], set);
            boolean with = known(law[0], set | 1 << r) && known(law[1], set | 1 << r);
            turned += with && !without ? 1 : 0;
        }
        return fraction(turned, sets, what);
    }

    int stand() {
        int best = 0;
        for (int set = (1 << now.laws.size()) - 1; set >= 0; set--) {
            boolean clash = false;
            for (int[] c : now.clashes) {
                clash |= (set >> c[0] & 1) == 1 && (set >> c[1] & 1) == 1;
            }
            if (!clash && Integer.bitCount(set) >= Integer.bitCount(best)) {
                best = set;
            }
        }
        standing = best;
        return Integer.bitCount(best);
    }

    int standing() {
        return standing;
    }

    int all() {
        World w = now.copy();
        for (int i = 0; i <= 300; i++) {
            boolean every = true;
            for (int r = 0; r < now.on.size(); r++) {
                every &= now.on.get(r) < 0 || now.rolls.get(r).isEmpty() || w.said.get(r) > now.said.get(r);
            }
            if (every) {
                return i;
            }
            w.turn();
        }
        return -1;
    }

    int part(int r, int what) {
        if (now.spoken() == 0 || !in(r, now.on.size()) || !in(what, 2)) {
            throw new NoSuchElementException();
        }
        return fraction(now.said.get(r), now.spoken(), what);
    }

    int most() {
        return now.spoken() == 0 ? -1 : now.said.indexOf(java.util.Collections.max(now.said));
    }

    private String name(char sort, int number) {
        for (Map.Entry<String, Named> e : now.names.entrySet()) {
            if (e.getValue().equals(new Named(sort, number))) {
                return e.getKey();
            }
        }
        throw new IllegalStateException();
    }

    int line(int r) {
        if (!in(r, now.on.size())) {
            return -1;
        }
        String where = now.on.get(r) < 0 ? " off" : " on " + name('s', now.on.get(r));
        String next = rider(r, 2) < 0 ? " mute" : " next " + name('w', rider(r, 2));
        line = name('p', r) + where + next;
        return line.length();
    }

    int byteAt(int i) {
        return in(i, line.length()) ? line.charAt(i) : -1;
    }

    int drawn(int n, int seed) {
        if (n < 1 || n > 60) {
            return -1;
        }
        World w = now.copy();
        int gone = 0;
        int x = seed;
        while (gone < n && w.tick < 1000) {
            x = w.drawn(x);
            gone++;
        }
        act(w, gone > 0 ? 0 : 1);
        return gone;
    }

    int odds(int l, int n, int seed) {
        if (!in(l, now.laws.size()) || n < 1 || n > 30) {
            return -1;
        }
        int good = 0;
        for (int i = 0; i < n; i++) {
            World w = now.copy();
            int x = seed + i;
            for (int k = 0; k < 30; k++) {
                x = w.drawn(x);
            }
            good += w.laws.get(l)[2];
        }
        return good;
    }

    int told(int what) {
        return in(what, 4) ? told[what] : -1;
    }

    int said(int k) {
        if (now.cond == null) {
            return -1;
        }
        List<Integer> who = new ArrayList<>();
        for (int r = 0; r < now.on.size(); r++) {
            if (now.cond.of(now, r)) {
                who.add(r);
            }
        }
        return k == -1 ? who.size() : in(k, who.size()) ? who.get(k) : -1;
    }

    boolean image(int k) {
        if (!in(k, 2)) {
            return false;
        }
        images[k] = now.copy();
        return true;
    }

    boolean restore(int k) {
        if (!in(k, 2) || images[k] == null) {
            return false;
        }
        now = images[k].copy();
        undo.clear();
        return true;
    }

    int count(int what) {
        int[] all = {now.rings.size(), now.seats.size(), now.words, now.on.size(), now.laws.size(), tape.length};
        return in(what, 6) ? all[what] : -1;
    }
}
