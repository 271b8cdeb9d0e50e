import java.util.Arrays;
import java.util.NoSuchElementException;

/** Roundabouts by their leave: the promises that the methods keep are numbered in the document. */
public final class RideLaws {
    public static final int NONE = -1;

    private static final int RING = 0;
    private static final int SEAT = 1;
    private static final int WORD = 2;
    private static final int RIDER = 3;
    private static final int LAW = 4;
    private static final int SORTS = 5;

    private static final int RINGS_MOST = 3;
    private static final int SEATS_MOST = 8;
    private static final int WORDS_MOST = 8;
    private static final int RIDERS_MOST = 6;
    private static final int LAWS_MOST = 8;
    private static final int ROLL_MOST = 6;

    private static final int TAPE_BYTES = 940;
    private static final int RIDE_BYTES = 900;
    private static final int BOOK_BYTES = 400;
    private static final int SENTENCE_BYTES = 200;

    private static final int LAST_TICK = 1000;
    private static final int TICKS_MOST = 60;
    private static final int FORESIGHT = 300;
    private static final int AIM_MOST = 99;
    private static final int SEEDS_MOST = 30;
    private static final int ODDS_TICKS = 30;

    private static final int FAULT_TOKEN = 1;
    private static final int FAULT_NUMBER = 2;
    private static final int FAULT_NAME = 3;
    private static final int FAULT_MANY = 4;

    // The words that no NAME may be; the numbers below tell their order here.
    private static final String KEYWORDS =
            "ring seat word rider says law clash mounts alights learns whistle tick or and not up mute latest on knows said roll number";
    private static final int KEY_RING = 0;
    private static final int KEY_SEAT = 1;
    private static final int KEY_WORD = 2;
    private static final int KEY_RIDER = 3;
    private static final int KEY_SAYS = 4;
    private static final int KEY_LAW = 5;
    private static final int KEY_CLASH = 6;
    private static final int KEY_MOUNTS = 7;
    private static final int KEY_ALIGHTS = 8;
    private static final int KEY_LEARNS = 9;
    private static final int KEY_WHISTLE = 10;
    private static final int KEY_TICK = 11;
    private static final int KEY_OR = 12;
    private static final int KEY_AND = 13;
    private static final int KEY_NOT = 14;
    private static final int KEY_UP = 15;
    private static final int KEY_MUTE = 16;
    private static final int KEY_LATEST = 17;
    private static final int KEY_ON = 18;
    private static final int KEY_KNOWS = 19;
    private static final int KEY_SAID = 20;
    private static final int KEY_ROLL = 21;
    private static final int KEY_NUMBER = 22;
    private static final int KEYS = 23;

    private final Reader reader = new Reader();
    private final Scene scene = new Scene();
    // What is read or tried out, before it is so or without its ever being so.
    private final Scene draft = new Scene();
    private final Scene firstImage = new Scene();
    private final Scene secondImage = new Scene();
    private final History history = new History();
    private final RideText rideText = new RideText(reader, draft);
    private final BookText bookText = new BookText(reader, scene.plan);
    private final Outlook outlook = new Outlook(scene.plan, scene.state, draft.state);
    private final Draws draws = new Draws();
    private final Line spelled = new Line();
    private final int[] toldLast = new int[4];
    private int faultLast = 0;
    private int aimedSeat = NONE;
    private int stoodLast = NONE;

    public RideLaws() {
        Arrays.fill(toldLast, NONE);
    }

    public int feed(int a, int b, int c, int d, int e) {
        if (reader.size + 20 > TAPE_BYTES) {
            return NONE;
        }
        reader.put(a);
        reader.put(b);
        reader.put(c);
        reader.put(d);
        reader.put(e);
        return reader.size;
    }

    public boolean end(int n) {
        if (n < 0 || n > reader.size) {
            return false;
        }
        reader.size = n;
        return true;
    }

    public int ride() {
        int lines = rideText.readAll();
        closeText();
        if (lines == NONE) {
            return -1 - reader.faultPlace;
        }
        draft.sentence.forget();
        scene.copyFrom(draft);
        history.size = 0;
        return lines;
    }

    public int fault() {
        return faultLast;
    }

    public int rider(int r, int what) throws NoSuchElementException {
        if (!has(RIDER, r) || what < 0 || what > 4) {
            throw new NoSuchElementException("no such rider or no such question");
        }
        switch (what) {
            case 0:
                return scene.state.seatOf[r];
            case 1:
                return scene.state.rollLength[r];
            case 2:
                return scene.state.nextWord(r);
            case 3:
                return scene.state.saidBy[r];
            default:
                return scene.state.knownBy(r);
        }
    }

    public int roll(int r, int k) {
        if (!has(RIDER, r) || k < 0 || k >= scene.state.rollLength[r]) {
            return NONE;
        }
        return scene.state.rollWord(r, k);
    }

    public int seat(int s, int what) {
        if (!has(SEAT, s)) {
            return NONE;
        }
        switch (what) {
            case 0:
                return scene.plan.seatRing[s];
            case 1:
                return scene.state.at[s];
            case 2:
                return scene.state.sitter[s];
            default:
                return NONE;
        }
    }

    public int law(int l, int what) {
        if (!has(LAW, l)) {
            return NONE;
        }
        switch (what) {
            case 0:
                return scene.plan.lawFirst[l];
            case 1:
                return scene.plan.lawSecond[l];
            case 2:
                return scene.state.isHolding(l) ? 1 : 0;
            case 3:
                return scene.plan.clashes[l];
            case 4:
                return scene.state.heldOften[l];
            default:
                return NONE;
        }
    }

    public int now(int what) {
        switch (what) {
            case 0:
                return scene.state.tick;
            case 1:
                return scene.state.latest;
            case 2:
                return scene.state.latestBy;
            case 3:
                return scene.state.holding;
            case 4:
                return scene.state.spoken;
            case 5:
                return seatsAtBox();
            case 6:
                return seatsTaken();
            case 7:
                return scene.state.whistles;
            default:
                return NONE;
        }
    }

    public int mount(int r, int s) {
        if (!has(RIDER, r) || !has(SEAT, s)) {
            return NONE;
        }
        int why = scene.state.whyNotMount(r, s);
        if (why == 0) {
            history.keep(scene.state);
            scene.state.sitDown(r, s);
        }
        return why;
    }

    public int alight(int r) {
        if (!has(RIDER, r)) {
            return NONE;
        }
        int why = scene.state.whyNotAlight(r);
        if (why == 0) {
            history.keep(scene.state);
            scene.state.getOff(r);
        }
        return why;
    }

    public int learn(int r, int w) {
        if (!has(RIDER, r) || !has(WORD, w)) {
            return NONE;
        }
        int why = scene.state.whyNotLearn(r);
        if (why == 0) {
            history.keep(scene.state);
            scene.state.addWord(r, w);
        }
        return why;
    }

    public int whistle() {
        int why = scene.state.whyNotWhistle();
        if (why == 0) {
            history.keep(scene.state);
            scene.state.blow();
        }
        return why;
    }

    public int ticks(int n) {
        if (n < 1 || n > TICKS_MOST) {
            return NONE;
        }
        int gone = Math.min(n, scene.state.ticksLeft());
        if (gone > 0) {
            history.keep(scene.state);
        }
        for (int i = 0; i < gone; i++) {
            scene.state.turn(scene.plan);
        }
        return gone;
    }

    public int undo() {
        if (!history.giveBack(scene.state)) {
            return NONE;
        }
        return history.size;
    }

    public int comes(int s) {
        return has(SEAT, s) ? outlook.ticksToBox(s) : NONE;
    }

    public int both(int s, int t) {
        if (!has(SEAT, s) || !has(SEAT, t) || s == t) {
            return NONE;
        }
        return outlook.ticksToMeet(s, t);
    }

    public int holds(int l) {
        return has(LAW, l) ? outlook.ticksToHold(l) : NONE;
    }

    public int aim(int l, int n) {
        if (!has(LAW, l) || n < 1 || n > AIM_MOST) {
            return NONE;
        }
        int found = outlook.bestMount(l, n);
        if (found == NONE) {
            return NONE;
        }
        aimedSeat = found % SEATS_MOST;
        return found / SEATS_MOST;
    }

    public int aimSeat() {
        return aimedSeat;
    }

    public int able(int l) {
        return has(LAW, l) ? outlook.ridersAble(l) : NONE;
    }

    public int power(int r, int l, int what) throws NoSuchElementException {
        if (!has(RIDER, r) || !has(LAW, l) || what < 0 || what > 1) {
            throw new NoSuchElementException("no such rider, law or question");
        }
        return inLeastTerms(outlook.setsTurned(r, l), 1 << (scene.plan.counts[RIDER] - 1), what);
    }

    public int stand() {
        stoodLast = outlook.lawsInPeace();
        return Integer.bitCount(stoodLast);
    }

    public int standing() {
        return stoodLast;
    }

    public int all() {
        return outlook.ticksTillAllSpoke();
    }

    public int part(int r, int what) throws NoSuchElementException {
        if (!has(RIDER, r) || scene.state.spoken == 0 || what < 0 || what > 1) {
            throw new NoSuchElementException("nothing was said, or no such rider or question");
        }
        return inLeastTerms(scene.state.saidBy[r], scene.state.spoken, what);
    }

    public int most() {
        if (scene.state.spoken == 0) {
            return NONE;
        }
        int best = 0;
        for (int r = 1; r < scene.plan.counts[RIDER]; r++) {
            if (scene.state.saidBy[r] > scene.state.saidBy[best]) {
                best = r;
            }
        }
        return best;
    }

    public int line(int r) {
        if (!has(RIDER, r)) {
            return NONE;
        }
        spelled.size = 0;
        spelled.addName(scene.plan.nameOf(RIDER, r));
        int on = scene.state.seatOf[r];
        if (on == NONE) {
            spelled.addText(" off");
        } else {
            spelled.addText(" on ");
            spelled.addName(scene.plan.nameOf(SEAT, on));
        }
        int word = scene.state.nextWord(r);
        if (word == NONE) {
            spelled.addText(" mute");
        } else {
            spelled.addText(" next ");
            spelled.addName(scene.plan.nameOf(WORD, word));
        }
        return spelled.size;
    }

    public int byteAt(int i) {
        return i >= 0 && i < spelled.size ? spelled.bytes[i] : NONE;
    }

    public int drawn(int n, int seed) {
        if (n < 1 || n > TICKS_MOST) {
            return NONE;
        }
        int gone = Math.min(n, scene.state.ticksLeft());
        if (gone > 0) {
            history.keep(scene.state);
        }
        draws.seed = seed;
        for (int i = 0; i < gone; i++) {
            scene.state.turnDrawn(scene.plan, draws);
        }
        return gone;
    }

    public int odds(int l, int n, int seed) {
        if (!has(LAW, l) || n < 1 || n > SEEDS_MOST) {
            return NONE;
        }
        int good = 0;
        for (int i = 0; i < n; i++) {
            draws.seed = seed + i;
            if (outlook.holdsByDraws(l, draws)) {
                good++;
            }
        }
        return good;
    }

    public int book(int lives) {
        if (lives != 0 && lives != 1) {
            return -1000;
        }
        boolean sound = bookText.readAll();
        closeText();
        if (!sound) {
            return -2 - reader.faultPlace;
        }
        draft.state.copyFrom(scene.state);
        int why = bookText.liveOn(draft.state);
        toldLast[0] = why;
        toldLast[1] = bookText.lived;
        toldLast[2] = draft.state.tick;
        toldLast[3] = draft.state.holding;
        if (lives == 1 && bookText.lived > 0) {
            history.keep(scene.state);
            scene.state.copyFrom(draft.state);
        }
        return why == 0 ? NONE : bookText.lived;
    }

    public int told(int what) {
        return what >= 0 && what < toldLast.length ? toldLast[what] : NONE;
    }

    public int sentence() {
        boolean sound = draft.sentence.readAll(reader, scene.plan);
        closeText();
        if (!sound) {
            return -1 - reader.faultPlace;
        }
        scene.sentence.copyFrom(draft.sentence);
        return scene.sentence.ones;
    }

    public int said(int k) {
        if (!scene.sentence.there || k < NONE) {
            return NONE;
        }
        int seen = 0;
        for (int r = 0; r < scene.plan.counts[RIDER]; r++) {
            if (scene.sentence.fits(scene.state, r)) {
                if (seen == k) {
                    return r;
                }
                seen++;
            }
        }
        return k == NONE ? seen : NONE;
    }

    public boolean image(int k) {
        if (k != 0 && k != 1) {
            return false;
        }
        Scene place = k == 0 ? firstImage : secondImage;
        place.copyFrom(scene);
        place.kept = true;
        return true;
    }

    public boolean restore(int k) {
        if (k != 0 && k != 1) {
            return false;
        }
        Scene place = k == 0 ? firstImage : secondImage;
        if (!place.kept) {
            return false;
        }
        scene.copyFrom(place);
        history.size = 0;
        return true;
    }

    public int count(int what) {
        if (what == SORTS) {
            return reader.size;
        }
        return what >= 0 && what < SORTS ? scene.plan.counts[what] : NONE;
    }

    private boolean has(int sort, int number) {
        return number >= 0 && number < scene.plan.counts[sort];
    }

    private void closeText() {
        faultLast = reader.fault;
        reader.size = 0;
    }

    private int seatsAtBox() {
        int bits = 0;
        for (int s = 0; s < scene.plan.counts[SEAT]; s++) {
            if (scene.state.at[s] == 0) {
                bits |= 1 << s;
            }
        }
        return bits;
    }

    private int seatsTaken() {
        int bits = 0;
        for (int s = 0; s < scene.plan.counts[SEAT]; s++) {
            if (scene.state.sitter[s] != NONE) {
                bits |= 1 << s;
            }
        }
        return bits;
    }

    private static int inLeastTerms(int above, int below, int what) {
        int a = below;
        int b = above;
        // Euclid's steps on two ints are fewer than 50.
        for (int i = 0; i < 64 && b != 0; i++) {
            int rest = a % b;
            a = b;
            b = rest;
        }
        if (a == 0) {
            return what == 0 ? 0 : 1;
        }
        return (what == 0 ? above : below) / a;
    }

    /** The tape, and its tokens one by one. A word is packed into a long, five bits a letter. */
    private static final class Reader {
        static final int END = 0;
        static final int BROKEN = 1;
        static final int NAME = 2;
        static final int KEYWORD = 3;
        static final int NUMBER = 4;
        static final int SIGN = 5;
        static final int LETTERS_MOST = 7;
        static final int DIGITS_MOST = 3;

        final byte[] bytes = new byte[TAPE_BYTES];
        final long[] keywords = new long[KEYS];
        int size = 0;
        int most = 0;
        int ahead = 0;
        // The token that is looked at; its value is a number, a sign or which keyword it is.
        int kind = END;
        int place = 0;
        int value = 0;
        long name = 0;
        int fault = 0;
        int faultPlace = 0;

        Reader() {
            int key = 0;
            for (int i = 0; i < KEYWORDS.length(); i++) {
                char c = KEYWORDS.charAt(i);
                if (c == ' ') {
                    key++;
                } else if (key < KEYS) {
                    keywords[key] = packed(keywords[key], c);
                }
            }
        }

        static long packed(long letters, int letter) {
            return letters * 32 + (letter - 'a' + 1);
        }

        void put(int four) {
            for (int shift = 24; shift >= 0; shift -= 8) {
                if (size < TAPE_BYTES) {
                    bytes[size] = (byte) (four >>> shift);
                    size++;
                }
            }
        }

        void begin(int mostBytes) {
            most = mostBytes;
            ahead = 0;
            fault = 0;
            faultPlace = 0;
            advance();
        }

        boolean refuse(int why) {
            fault = why;
            faultPlace = place;
            return false;
        }

        void advance() {
            while (ahead < size && isBlank(bytes[ahead])) {
                ahead++;
            }
            place = ahead;
            if (size > most && place >= most) {
                // Here the text has too many bytes, whatever they are: nothing can come.
                place = most;
                kind = BROKEN;
            } else if (place >= size) {
                kind = END;
            } else if (isLetter(bytes[place]) || isDigit(bytes[place])) {
                readRun();
            } else {
                value = bytes[place];
                kind = isSign(value) ? SIGN : BROKEN;
                ahead++;
            }
        }

        private void readRun() {
            int letters = 0;
            int digits = 0;
            int number = 0;
            long letterCode = 0;
            while (ahead < size && (isLetter(bytes[ahead]) || isDigit(bytes[ahead]))) {
                if (isLetter(bytes[ahead])) {
                    letters++;
                    letterCode = packed(letterCode, bytes[ahead]);
                } else {
                    digits++;
                    number = number * 10 + (bytes[ahead] - '0');
                }
                ahead++;
            }
            if (digits == 0 && letters <= LETTERS_MOST) {
                takeWord(letterCode);
            } else if (letters == 0 && digits <= DIGITS_MOST) {
                kind = NUMBER;
                value = number;
            } else {
                kind = BROKEN;
            }
        }

        private void takeWord(long letterCode) {
            name = letterCode;
            kind = NAME;
            for (int key = 0; key < KEYS; key++) {
                if (keywords[key] == letterCode) {
                    kind = KEYWORD;
                    value = key;
                }
            }
        }

        private static boolean isBlank(int b) {
            return b == 32 || b == 10;
        }

        private static boolean isLetter(int b) {
            return b >= 'a' && b <= 'z';
        }

        private static boolean isDigit(int b) {
            return b >= '0' && b <= '9';
        }

        private static boolean isSign(int b) {
            return b == ';' || b == '<' || b == '=' || b == '>' || b == '(' || b == ')';
        }

        boolean isKeyword(int key) {
            return kind == KEYWORD && value == key;
        }

        boolean isSignOf(int sign) {
            return kind == SIGN && value == sign;
        }

        boolean takeSign(int sign) {
            if (!isSignOf(sign)) {
                return refuse(FAULT_TOKEN);
            }
            advance();
            return true;
        }

        /** The number that is looked at, or NONE and a fault; it is not passed, for more may be wrong with it. */
        int peekNumber(int low, int high) {
            if (kind != NUMBER) {
                refuse(FAULT_TOKEN);
                return NONE;
            }
            if (value < low || value > high) {
                refuse(FAULT_NUMBER);
                return NONE;
            }
            return value;
        }

        /** Whose name is looked at, or NONE and a fault; it is not passed, for more may be wrong with it. */
        int peekNamed(Plan plan, int sort) {
            if (kind != NAME) {
                refuse(FAULT_TOKEN);
                return NONE;
            }
            int number = plan.numberOf(sort, name);
            if (number == NONE) {
                refuse(FAULT_NAME);
            }
            return number;
        }
    }

    /** What a ride's text tells and no tick changes. */
    private static final class Plan {
        static final int[] MOST_OF = {RINGS_MOST, SEATS_MOST, WORDS_MOST, RIDERS_MOST, LAWS_MOST};
        static final int NAMES_A_SORT = 8;

        final int[] counts = new int[SORTS];
        final long[] names = new long[SORTS * NAMES_A_SORT];
        final int[] steps = new int[RINGS_MOST];
        final int[] speed = new int[RINGS_MOST];
        final int[] seatRing = new int[SEATS_MOST];
        // What is added to a seat's step each tick, less than its ring's steps.
        final int[] seatStride = new int[SEATS_MOST];
        final int[] seatSteps = new int[SEATS_MOST];
        final int[] lawFirst = new int[LAWS_MOST];
        final int[] lawSecond = new int[LAWS_MOST];
        final int[] clashes = new int[LAWS_MOST];
        // The law of two words, one behind the other, or NONE.
        final int[] lawOf = new int[WORDS_MOST * WORDS_MOST];

        Plan() {
            Arrays.fill(lawOf, NONE);
        }

        void forget() {
            Arrays.fill(counts, 0);
            Arrays.fill(clashes, 0);
            Arrays.fill(lawOf, NONE);
        }

        void copyFrom(Plan other) {
            System.arraycopy(other.counts, 0, counts, 0, SORTS);
            System.arraycopy(other.names, 0, names, 0, SORTS * NAMES_A_SORT);
            System.arraycopy(other.steps, 0, steps, 0, RINGS_MOST);
            System.arraycopy(other.speed, 0, speed, 0, RINGS_MOST);
            System.arraycopy(other.seatRing, 0, seatRing, 0, SEATS_MOST);
            System.arraycopy(other.seatStride, 0, seatStride, 0, SEATS_MOST);
            System.arraycopy(other.seatSteps, 0, seatSteps, 0, SEATS_MOST);
            System.arraycopy(other.lawFirst, 0, lawFirst, 0, LAWS_MOST);
            System.arraycopy(other.lawSecond, 0, lawSecond, 0, LAWS_MOST);
            System.arraycopy(other.clashes, 0, clashes, 0, LAWS_MOST);
            System.arraycopy(other.lawOf, 0, lawOf, 0, WORDS_MOST * WORDS_MOST);
        }

        boolean isFull(int sort) {
            return counts[sort] >= MOST_OF[sort];
        }

        boolean isTold(long name) {
            for (int sort = 0; sort < SORTS; sort++) {
                if (numberOf(sort, name) != NONE) {
                    return true;
                }
            }
            return false;
        }

        int numberOf(int sort, long name) {
            for (int i = 0; i < counts[sort]; i++) {
                if (names[sort * NAMES_A_SORT + i] == name) {
                    return i;
                }
            }
            return NONE;
        }

        long nameOf(int sort, int number) {
            return names[sort * NAMES_A_SORT + number];
        }

        int addNamed(int sort, long name) {
            int number = counts[sort];
            names[sort * NAMES_A_SORT + number] = name;
            counts[sort]++;
            return number;
        }

        void addRing(long name, int ringSteps, int ringSpeed) {
            int ring = addNamed(RING, name);
            steps[ring] = ringSteps;
            speed[ring] = ringSpeed;
        }

        int addSeat(long name, int ring) {
            int seat = addNamed(SEAT, name);
            seatRing[seat] = ring;
            seatSteps[seat] = steps[ring];
            seatStride[seat] = steps[ring] > 0 ? speed[ring] % steps[ring] : 0;
            return seat;
        }

        void addLaw(long name, int first, int second) {
            int law = addNamed(LAW, name);
            lawFirst[law] = first;
            lawSecond[law] = second;
            lawOf[first * WORDS_MOST + second] = law;
        }

        void addClash(int one, int other) {
            clashes[one] |= 1 << other;
            clashes[other] |= 1 << one;
        }

        /** One tick on: a stride is less than the steps, so one round at most is passed. */
        int stepOn(int seat, int at) {
            int next = at + seatStride[seat];
            return next >= seatSteps[seat] ? next - seatSteps[seat] : next;
        }
    }

    /** What ticks and acts change. */
    private static final class State {
        int tick = 0;
        int latest = NONE;
        int latestBy = NONE;
        int holding = 0;
        int spoken = 0;
        int whistles = 0;
        final int[] at = new int[SEATS_MOST];
        final int[] sitter = new int[SEATS_MOST];
        final int[] seatOf = new int[RIDERS_MOST];
        final int[] rollLength = new int[RIDERS_MOST];
        final int[] rolls = new int[RIDERS_MOST * ROLL_MOST];
        final int[] next = new int[RIDERS_MOST];
        final int[] saidBy = new int[RIDERS_MOST];
        final int[] heldOften = new int[LAWS_MOST];

        State() {
            Arrays.fill(sitter, NONE);
            Arrays.fill(seatOf, NONE);
        }

        void forget() {
            tick = 0;
            latest = NONE;
            latestBy = NONE;
            holding = 0;
            spoken = 0;
            whistles = 0;
            Arrays.fill(sitter, NONE);
            Arrays.fill(seatOf, NONE);
            Arrays.fill(rollLength, 0);
            Arrays.fill(next, 0);
            Arrays.fill(saidBy, 0);
            Arrays.fill(heldOften, 0);
        }

        void copyFrom(State other) {
            tick = other.tick;
            latest = other.latest;
            latestBy = other.latestBy;
            holding = other.holding;
            spoken = other.spoken;
            whistles = other.whistles;
            System.arraycopy(other.at, 0, at, 0, SEATS_MOST);
            System.arraycopy(other.sitter, 0, sitter, 0, SEATS_MOST);
            System.arraycopy(other.seatOf, 0, seatOf, 0, RIDERS_MOST);
            System.arraycopy(other.rollLength, 0, rollLength, 0, RIDERS_MOST);
            System.arraycopy(other.rolls, 0, rolls, 0, RIDERS_MOST * ROLL_MOST);
            System.arraycopy(other.next, 0, next, 0, RIDERS_MOST);
            System.arraycopy(other.saidBy, 0, saidBy, 0, RIDERS_MOST);
            System.arraycopy(other.heldOften, 0, heldOften, 0, LAWS_MOST);
        }

        int ticksLeft() {
            return Math.max(0, LAST_TICK - tick);
        }

        boolean isHolding(int law) {
            return (holding >> law & 1) != 0;
        }

        int rollWord(int rider, int k) {
            return rolls[rider * ROLL_MOST + k];
        }

        int nextWord(int rider) {
            return rollLength[rider] == 0 ? NONE : rollWord(rider, next[rider]);
        }

        int knownBy(int rider) {
            int bits = 0;
            for (int k = 0; k < rollLength[rider]; k++) {
                bits |= 1 << rollWord(rider, k);
            }
            return bits;
        }

        int whyNotMount(int rider, int seat) {
            if (seatOf[rider] != NONE) {
                return 1;
            }
            return sitter[seat] != NONE ? 2 : 0;
        }

        int whyNotAlight(int rider) {
            return seatOf[rider] == NONE ? 1 : 0;
        }

        int whyNotLearn(int rider) {
            return rollLength[rider] >= ROLL_MOST ? 1 : 0;
        }

        int whyNotWhistle() {
            return holding == 0 && latest == NONE ? 1 : 0;
        }

        void sitDown(int rider, int seat) {
            seatOf[rider] = seat;
            sitter[seat] = rider;
        }

        void getOff(int rider) {
            int seat = seatOf[rider];
            if (seat != NONE) {
                sitter[seat] = NONE;
            }
            seatOf[rider] = NONE;
        }

        void addWord(int rider, int word) {
            rolls[rider * ROLL_MOST + rollLength[rider]] = word;
            rollLength[rider]++;
        }

        void blow() {
            holding = 0;
            latest = NONE;
            latestBy = NONE;
            Arrays.fill(next, 0);
            whistles++;
        }

        /** A tick. What is said hangs on no other seat's step, so one round does for turning and saying. */
        void turn(Plan plan) {
            int seats = plan.counts[SEAT];
            for (int s = 0; s < seats; s++) {
                int step = plan.stepOn(s, at[s]);
                at[s] = step;
                int rider = sitter[s];
                if (step == 0 && rider != NONE && rollLength[rider] > 0) {
                    speak(plan, rider);
                }
            }
            tick++;
        }

        private void speak(Plan plan, int rider) {
            int word = rollWord(rider, next[rider]);
            int following = next[rider] + 1;
            next[rider] = following < rollLength[rider] ? following : 0;
            saidBy[rider]++;
            spoken++;
            int law = latest == NONE ? NONE : plan.lawOf[latest * WORDS_MOST + word];
            if (law != NONE) {
                holding = (holding | 1 << law) & ~plan.clashes[law];
                heldOften[law]++;
            }
            latest = word;
            latestBy = rider;
        }

        void turnDrawn(Plan plan, Draws draws) {
            int riders = plan.counts[RIDER];
            int seats = plan.counts[SEAT];
            int words = plan.counts[WORD];
            int act = draws.below(12);
            if (act == 0 && riders > 0 && seats > 0) {
                int rider = draws.below(riders);
                mountOrAlight(rider, draws.below(seats));
            } else if (act == 1 && riders > 0 && words > 0) {
                int rider = draws.below(riders);
                int word = draws.below(words);
                if (whyNotLearn(rider) == 0) {
                    addWord(rider, word);
                }
            } else if (act == 2 && whyNotWhistle() == 0) {
                blow();
            }
            turn(plan);
        }

        private void mountOrAlight(int rider, int seat) {
            if (whyNotAlight(rider) == 0) {
                getOff(rider);
            } else if (whyNotMount(rider, seat) == 0) {
                sitDown(rider, seat);
            }
        }
    }

    /** The draws by a seed. */
    private static final class Draws {
        int seed = 0;

        int below(int n) {
            seed = seed * 1103515245 + 12345;
            return n > 0 ? (seed >>> 8) % n : 0;
        }
    }

    /** What may be said of riders, kept as steps in which each "and" and "or" comes behind its two sides. */
    private static final class Sentence {
        static final int ONES_MOST = 20;
        static final int WITHIN_MOST = 8;
        // Twenty ones and what joins them are 39 at most.
        static final int STEPS_MOST = 40;

        final int[] keys = new int[STEPS_MOST];
        final int[] signs = new int[STEPS_MOST];
        final int[] values = new int[STEPS_MOST];
        int size = 0;
        int ones = 0;
        boolean there = false;

        void forget() {
            size = 0;
            ones = 0;
            there = false;
        }

        void copyFrom(Sentence other) {
            System.arraycopy(other.keys, 0, keys, 0, STEPS_MOST);
            System.arraycopy(other.signs, 0, signs, 0, STEPS_MOST);
            System.arraycopy(other.values, 0, values, 0, STEPS_MOST);
            size = other.size;
            ones = other.ones;
            there = other.there;
        }

        boolean readAll(Reader reader, Plan plan) {
            forget();
            reader.begin(SENTENCE_BYTES);
            if (!readCond(reader, plan, 1)) {
                return false;
            }
            if (reader.kind != Reader.END) {
                return reader.refuse(FAULT_TOKEN);
            }
            there = true;
            return true;
        }

        /** An "and" is added as soon as its right side is; an "or" waits for the end of all "and"s there. */
        private boolean readCond(Reader reader, Plan plan, int depth) {
            if (!readOne(reader, plan, depth)) {
                return false;
            }
            boolean waiting = false;
            for (int i = 0; i < ONES_MOST && (reader.isKeyword(KEY_AND) || reader.isKeyword(KEY_OR)); i++) {
                boolean and = reader.isKeyword(KEY_AND);
                if (!and && waiting) {
                    add(KEY_OR, 0, 0);
                }
                waiting = waiting || !and;
                reader.advance();
                if (!readOne(reader, plan, depth)) {
                    return false;
                }
                if (and) {
                    add(KEY_AND, 0, 0);
                }
            }
            return !waiting || add(KEY_OR, 0, 0);
        }

        private boolean readOne(Reader reader, Plan plan, int depth) {
            boolean bracket = reader.isSignOf('(');
            if (!bracket && !beginsOne(reader)) {
                return reader.refuse(FAULT_TOKEN);
            }
            if (ones >= ONES_MOST || depth > WITHIN_MOST) {
                return reader.refuse(FAULT_MANY);
            }
            ones++;
            int key = reader.value;
            reader.advance();
            if (bracket) {
                return readCond(reader, plan, depth + 1) && reader.takeSign(')');
            }
            switch (key) {
                case KEY_NOT:
                    return readOne(reader, plan, depth + 1) && add(key, 0, 0);
                case KEY_ON:
                    return readNamed(reader, plan, key, SEAT);
                case KEY_KNOWS:
                    return readNamed(reader, plan, key, WORD);
                case KEY_SAID:
                case KEY_ROLL:
                case KEY_NUMBER:
                    return readCompared(reader, key);
                default:
                    return add(key, 0, 0);
            }
        }

        private static boolean beginsOne(Reader reader) {
            return reader.kind == Reader.KEYWORD && reader.value >= KEY_NOT && reader.value <= KEY_NUMBER;
        }

        private boolean readNamed(Reader reader, Plan plan, int key, int sort) {
            int number = reader.peekNamed(plan, sort);
            if (number == NONE) {
                return false;
            }
            reader.advance();
            return add(key, 0, number);
        }

        private boolean readCompared(Reader reader, int key) {
            if (!reader.isSignOf('<') && !reader.isSignOf('=') && !reader.isSignOf('>')) {
                return reader.refuse(FAULT_TOKEN);
            }
            int sign = reader.value;
            reader.advance();
            int number = reader.peekNumber(0, 999);
            if (number == NONE) {
                return false;
            }
            reader.advance();
            return add(key, sign, number);
        }

        private boolean add(int key, int sign, int value) {
            if (size < STEPS_MOST) {
                keys[size] = key;
                signs[size] = sign;
                values[size] = value;
                size++;
            }
            return true;
        }

        /** The answers so far are bits of one int, the latest one lowest: never more than twenty. */
        boolean fits(State state, int rider) {
            int answers = 0;
            for (int i = 0; i < size; i++) {
                switch (keys[i]) {
                    case KEY_NOT:
                        answers ^= 1;
                        break;
                    case KEY_AND:
                        answers = answers >> 2 << 1 | (answers >> 1 & answers & 1);
                        break;
                    case KEY_OR:
                        answers = answers >> 2 << 1 | ((answers >> 1 | answers) & 1);
                        break;
                    default:
                        answers = answers << 1 | (isTrue(i, state, rider) ? 1 : 0);
                        break;
                }
            }
            return (answers & 1) != 0;
        }

        private boolean isTrue(int i, State state, int rider) {
            switch (keys[i]) {
                case KEY_UP:
                    return state.seatOf[rider] != NONE;
                case KEY_MUTE:
                    return state.rollLength[rider] == 0;
                case KEY_LATEST:
                    return state.latestBy == rider;
                case KEY_ON:
                    return state.seatOf[rider] == values[i];
                case KEY_KNOWS:
                    return (state.knownBy(rider) >> values[i] & 1) != 0;
                case KEY_SAID:
                    return isSo(state.saidBy[rider], signs[i], values[i]);
                case KEY_ROLL:
                    return isSo(state.rollLength[rider], signs[i], values[i]);
                default:
                    return isSo(rider, signs[i], values[i]);
            }
        }

        private static boolean isSo(int left, int sign, int right) {
            if (sign == '<') {
                return left < right;
            }
            return sign == '=' ? left == right : left > right;
        }
    }

    /** A ride with all that is so and its sentence. */
    private static final class Scene {
        final Plan plan = new Plan();
        final State state = new State();
        final Sentence sentence = new Sentence();
        boolean kept = false;

        void copyFrom(Scene other) {
            plan.copyFrom(other.plan);
            state.copyFrom(other.state);
            sentence.copyFrom(other.sentence);
        }
    }

    /** How it was before each of the latest acts. */
    private static final class History {
        static final int ACTS_MOST = 8;

        final State[] before = new State[ACTS_MOST];
        int size = 0;

        History() {
            for (int i = 0; i < ACTS_MOST; i++) {
                before[i] = new State();
            }
        }

        void keep(State state) {
            if (size >= ACTS_MOST) {
                dropOldest();
            }
            before[size].copyFrom(state);
            size++;
        }

        private void dropOldest() {
            State oldest = before[0];
            for (int i = 1; i < ACTS_MOST; i++) {
                before[i - 1] = before[i];
            }
            // Its rows serve again for the newest.
            before[ACTS_MOST - 1] = oldest;
            size = ACTS_MOST - 1;
        }

        boolean giveBack(State state) {
            if (size <= 0) {
                return false;
            }
            size--;
            state.copyFrom(before[size]);
            return true;
        }
    }

    /** Reads a ride's text into a scene that is not yet the one in use. */
    private static final class RideText {
        final Reader reader;
        final Plan plan;
        final State state;

        RideText(Reader reader, Scene into) {
            this.reader = reader;
            this.plan = into.plan;
            this.state = into.state;
        }

        /** How many lines, or NONE and a fault. */
        int readAll() {
            plan.forget();
            state.forget();
            reader.begin(RIDE_BYTES);
            int lines = 0;
            // Each line takes bytes of the tape, so the end or a fault comes before the bound.
            while (lines < TAPE_BYTES && reader.kind != Reader.END) {
                if (!readLine() || !reader.takeSign(';')) {
                    return NONE;
                }
                lines++;
            }
            return lines;
        }

        private boolean readLine() {
            if (reader.kind != Reader.KEYWORD) {
                return reader.refuse(FAULT_TOKEN);
            }
            switch (reader.value) {
                case KEY_RING:
                    return readRing();
                case KEY_SEAT:
                    return readSeat();
                case KEY_WORD:
                    return readWord();
                case KEY_RIDER:
                    return readRider();
                case KEY_SAYS:
                    return readSays();
                case KEY_LAW:
                    return readLaw();
                case KEY_CLASH:
                    return readClash();
                default:
                    return reader.refuse(FAULT_TOKEN);
            }
        }

        /** The name of a new one of a sort, behind the keyword that is looked at; 0 and a fault: none. */
        private long readNew(int sort) {
            if (plan.isFull(sort)) {
                reader.refuse(FAULT_MANY);
                return 0;
            }
            reader.advance();
            if (reader.kind != Reader.NAME) {
                reader.refuse(FAULT_TOKEN);
                return 0;
            }
            if (plan.isTold(reader.name)) {
                reader.refuse(FAULT_NAME);
                return 0;
            }
            long name = reader.name;
            reader.advance();
            return name;
        }

        private boolean readRing() {
            long name = readNew(RING);
            if (name == 0) {
                return false;
            }
            int steps = reader.peekNumber(2, 30);
            if (steps == NONE) {
                return false;
            }
            reader.advance();
            int speed = reader.peekNumber(1, 9);
            if (speed == NONE) {
                return false;
            }
            reader.advance();
            plan.addRing(name, steps, speed);
            return true;
        }

        private boolean readSeat() {
            long name = readNew(SEAT);
            if (name == 0) {
                return false;
            }
            int ring = reader.peekNamed(plan, RING);
            if (ring == NONE) {
                return false;
            }
            reader.advance();
            int at = reader.peekNumber(0, plan.steps[ring] - 1);
            if (at == NONE) {
                return false;
            }
            if (isTaken(ring, at)) {
                return reader.refuse(FAULT_NAME);
            }
            reader.advance();
            state.at[plan.addSeat(name, ring)] = at;
            return true;
        }

        private boolean isTaken(int ring, int at) {
            for (int s = 0; s < plan.counts[SEAT]; s++) {
                if (plan.seatRing[s] == ring && state.at[s] == at) {
                    return true;
                }
            }
            return false;
        }

        private boolean readWord() {
            long name = readNew(WORD);
            if (name == 0) {
                return false;
            }
            plan.addNamed(WORD, name);
            return true;
        }

        private boolean readRider() {
            long name = readNew(RIDER);
            if (name == 0) {
                return false;
            }
            if (reader.kind != Reader.NAME) {
                plan.addNamed(RIDER, name);
                return true;
            }
            int seat = reader.peekNamed(plan, SEAT);
            if (seat == NONE) {
                return false;
            }
            if (state.sitter[seat] != NONE) {
                return reader.refuse(FAULT_NAME);
            }
            reader.advance();
            state.sitDown(plan.addNamed(RIDER, name), seat);
            return true;
        }

        private boolean readSays() {
            reader.advance();
            int rider = reader.peekNamed(plan, RIDER);
            if (rider == NONE) {
                return false;
            }
            if (state.whyNotLearn(rider) != 0) {
                return reader.refuse(FAULT_MANY);
            }
            reader.advance();
            int word = reader.peekNamed(plan, WORD);
            if (word == NONE) {
                return false;
            }
            reader.advance();
            state.addWord(rider, word);
            return true;
        }

        private boolean readLaw() {
            long name = readNew(LAW);
            if (name == 0) {
                return false;
            }
            int first = reader.peekNamed(plan, WORD);
            if (first == NONE) {
                return false;
            }
            reader.advance();
            int second = reader.peekNamed(plan, WORD);
            if (second == NONE) {
                return false;
            }
            if (plan.lawOf[first * WORDS_MOST + second] != NONE) {
                return reader.refuse(FAULT_NAME);
            }
            reader.advance();
            plan.addLaw(name, first, second);
            return true;
        }

        private boolean readClash() {
            reader.advance();
            int one = reader.peekNamed(plan, LAW);
            if (one == NONE) {
                return false;
            }
            reader.advance();
            int other = reader.peekNamed(plan, LAW);
            if (other == NONE) {
                return false;
            }
            if (one == other || (plan.clashes[one] >> other & 1) != 0) {
                return reader.refuse(FAULT_NAME);
            }
            reader.advance();
            plan.addClash(one, other);
            return true;
        }
    }

    /** Reads a book's lines, and lives them. */
    private static final class BookText {
        static final int LINES_MOST = 40;
        static final int WRONG_ALIGHT = 10;
        static final int WRONG_LEARN = 20;
        static final int WRONG_WHISTLE = 30;
        static final int WRONG_TICKS = 41;

        final Reader reader;
        final Plan plan;
        final int[] acts = new int[LINES_MOST];
        final int[] riders = new int[LINES_MOST];
        // The seat, the word or the ticks of a line.
        final int[] values = new int[LINES_MOST];
        int size = 0;
        int lived = 0;

        BookText(Reader reader, Plan plan) {
            this.reader = reader;
            this.plan = plan;
        }

        boolean readAll() {
            size = 0;
            reader.begin(BOOK_BYTES);
            for (int i = 0; i <= LINES_MOST && reader.kind != Reader.END; i++) {
                if (!readLine() || !reader.takeSign(';')) {
                    return false;
                }
            }
            return true;
        }

        private boolean readLine() {
            boolean whistle = reader.isKeyword(KEY_WHISTLE);
            boolean tick = reader.isKeyword(KEY_TICK);
            int rider = NONE;
            if (!whistle && !tick) {
                rider = reader.peekNamed(plan, RIDER);
                if (rider == NONE) {
                    return false;
                }
            }
            if (size >= LINES_MOST) {
                return reader.refuse(FAULT_MANY);
            }
            reader.advance();
            if (whistle) {
                return add(KEY_WHISTLE, NONE, 0);
            }
            return tick ? readTicks() : readAct(rider);
        }

        private boolean readTicks() {
            int n = reader.peekNumber(1, TICKS_MOST);
            if (n == NONE) {
                return false;
            }
            reader.advance();
            return add(KEY_TICK, NONE, n);
        }

        private boolean readAct(int rider) {
            if (reader.isKeyword(KEY_ALIGHTS)) {
                reader.advance();
                return add(KEY_ALIGHTS, rider, 0);
            }
            boolean mounts = reader.isKeyword(KEY_MOUNTS);
            if (!mounts && !reader.isKeyword(KEY_LEARNS)) {
                return reader.refuse(FAULT_TOKEN);
            }
            reader.advance();
            int number = reader.peekNamed(plan, mounts ? SEAT : WORD);
            if (number == NONE) {
                return false;
            }
            reader.advance();
            return add(mounts ? KEY_MOUNTS : KEY_LEARNS, rider, number);
        }

        private boolean add(int act, int rider, int value) {
            if (size < LINES_MOST) {
                acts[size] = act;
                riders[size] = rider;
                values[size] = value;
                size++;
            }
            return true;
        }

        /** Lives lines till one is wrong: why it is, or 0; lived tells how many were not. */
        int liveOn(State state) {
            lived = 0;
            int why = 0;
            for (int i = 0; i < size && why == 0; i++) {
                why = liveLine(i, state);
                if (why == 0) {
                    lived++;
                }
            }
            return why;
        }

        private int liveLine(int i, State state) {
            switch (acts[i]) {
                case KEY_MOUNTS:
                    return liveMount(riders[i], values[i], state);
                case KEY_ALIGHTS:
                    if (state.whyNotAlight(riders[i]) != 0) {
                        return WRONG_ALIGHT + state.whyNotAlight(riders[i]);
                    }
                    state.getOff(riders[i]);
                    return 0;
                case KEY_LEARNS:
                    if (state.whyNotLearn(riders[i]) != 0) {
                        return WRONG_LEARN + state.whyNotLearn(riders[i]);
                    }
                    state.addWord(riders[i], values[i]);
                    return 0;
                case KEY_WHISTLE:
                    if (state.whyNotWhistle() != 0) {
                        return WRONG_WHISTLE + state.whyNotWhistle();
                    }
                    state.blow();
                    return 0;
                default:
                    return liveTicks(values[i], state);
            }
        }

        private static int liveMount(int rider, int seat, State state) {
            int why = state.whyNotMount(rider, seat);
            if (why == 0) {
                state.sitDown(rider, seat);
            }
            return why;
        }

        private int liveTicks(int n, State state) {
            if (state.ticksLeft() < n) {
                return WRONG_TICKS;
            }
            for (int i = 0; i < n; i++) {
                state.turn(plan);
            }
            return 0;
        }
    }

    /** What would go on, and what riders and laws could do. */
    private static final class Outlook {
        final Plan plan;
        final State state;
        final State trial;

        Outlook(Plan plan, State state, State trial) {
            this.plan = plan;
            this.state = state;
            this.trial = trial;
        }

        int ticksToBox(int seat) {
            int at = state.at[seat];
            for (int i = 0; i < plan.seatSteps[seat]; i++) {
                if (at == 0) {
                    return i;
                }
                at = plan.stepOn(seat, at);
            }
            return NONE;
        }

        int ticksToMeet(int one, int other) {
            int here = state.at[one];
            int there = state.at[other];
            // Behind so many ticks both rings are as they are now.
            int round = plan.seatSteps[one] * plan.seatSteps[other];
            for (int i = 0; i < round; i++) {
                if (here == 0 && there == 0) {
                    return i;
                }
                here = plan.stepOn(one, here);
                there = plan.stepOn(other, there);
            }
            return NONE;
        }

        int ticksToHold(int law) {
            if (state.isHolding(law)) {
                return 0;
            }
            trial.copyFrom(state);
            return ticksTillTrialHolds(law, FORESIGHT);
        }

        private int ticksTillTrialHolds(int law, int most) {
            for (int i = 1; i <= most; i++) {
                trial.turn(plan);
                if (trial.isHolding(law)) {
                    return i;
                }
            }
            return NONE;
        }

        /** Rider and seat as one number, the rider's part higher; NONE: no mount makes the law hold. */
        int bestMount(int law, int most) {
            for (int r = 0; r < plan.counts[RIDER]; r++) {
                for (int s = 0; s < plan.counts[SEAT]; s++) {
                    if (state.whyNotMount(r, s) == 0) {
                        trial.copyFrom(state);
                        trial.sitDown(r, s);
                        if (ticksTillTrialHolds(law, most) != NONE) {
                            return r * SEATS_MOST + s;
                        }
                    }
                }
            }
            return NONE;
        }

        int ticksTillAllSpoke() {
            int waiting = 0;
            for (int r = 0; r < plan.counts[RIDER]; r++) {
                if (state.seatOf[r] != NONE && state.rollLength[r] > 0) {
                    waiting |= 1 << r;
                }
            }
            trial.copyFrom(state);
            for (int i = 0; i <= FORESIGHT; i++) {
                waiting = stillSilent(waiting);
                if (waiting == 0) {
                    return i;
                }
                trial.turn(plan);
            }
            return NONE;
        }

        private int stillSilent(int waiting) {
            int bits = waiting;
            for (int r = 0; r < plan.counts[RIDER]; r++) {
                if (trial.saidBy[r] > state.saidBy[r]) {
                    bits &= ~(1 << r);
                }
            }
            return bits;
        }

        boolean holdsByDraws(int law, Draws draws) {
            trial.copyFrom(state);
            for (int i = 0; i < ODDS_TICKS; i++) {
                trial.turnDrawn(plan, draws);
            }
            return trial.isHolding(law);
        }

        private int needs(int law) {
            return 1 << plan.lawFirst[law] | 1 << plan.lawSecond[law];
        }

        int ridersAble(int law) {
            int bits = 0;
            for (int r = 0; r < plan.counts[RIDER]; r++) {
                if ((state.knownBy(r) & needs(law)) != 0) {
                    bits |= 1 << r;
                }
            }
            return bits;
        }

        /** How many sets of other riders can say all that a law needs with this one alone. */
        int setsTurned(int rider, int law) {
            int needed = needs(law);
            int his = state.knownBy(rider);
            int turned = 0;
            for (int set = 0; set < 1 << plan.counts[RIDER]; set++) {
                if ((set >> rider & 1) == 0) {
                    int known = knownTo(set);
                    if ((known & needed) != needed && ((known | his) & needed) == needed) {
                        turned++;
                    }
                }
            }
            return turned;
        }

        private int knownTo(int set) {
            int bits = 0;
            for (int r = 0; r < plan.counts[RIDER]; r++) {
                if ((set >> r & 1) != 0) {
                    bits |= state.knownBy(r);
                }
            }
            return bits;
        }

        /** The most laws of which no two clash, as bits: the sets come in the order of their bits. */
        int lawsInPeace() {
            int best = 0;
            for (int set = 1; set < 1 << plan.counts[LAW]; set++) {
                if (Integer.bitCount(set) > Integer.bitCount(best) && isPeaceful(set)) {
                    best = set;
                }
            }
            return best;
        }

        private boolean isPeaceful(int set) {
            for (int l = 0; l < plan.counts[LAW]; l++) {
                if ((set >> l & 1) != 0 && (plan.clashes[l] & set) != 0) {
                    return false;
                }
            }
            return true;
        }
    }

    /** A line of text as it is spelled. */
    private static final class Line {
        // A rider's, a seat's and a word's name of 7 letters each, " on " and " next ", are 31.
        static final int BYTES_MOST = 32;

        final byte[] bytes = new byte[BYTES_MOST];
        int size = 0;

        void addText(String text) {
            for (int i = 0; i < text.length(); i++) {
                addByte(text.charAt(i));
            }
        }

        void addName(long name) {
            for (int shift = 30; shift >= 0; shift -= 5) {
                int letter = (int) (name >> shift & 31);
                if (letter != 0) {
                    addByte('a' + letter - 1);
                }
            }
        }

        private void addByte(int b) {
            if (size < BYTES_MOST) {
                bytes[size] = (byte) b;
                size++;
            }
        }
    }
}
