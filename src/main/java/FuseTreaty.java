import java.util.Arrays;

/** A tenement whose treaties are fuse wires; README.md and the document tell what each call answers. */
public final class FuseTreaty {

    public static final int NONE = -1;

    private static final int NOT_SO = -2;
    private static final int NO_WHOLE_WIRE = -2000;
    private static final int NOT_ASKED = -1000;

    private static final int MOST_BYTES = 2000;
    private static final int FED_BYTES = 20;
    private static final int MOST_TOKENS = 400;
    private static final int MOST_LETTERS = 8;
    private static final int MOST_DIGITS = 4;
    private static final int MOST_IFS = 4;
    private static final int MOST_OPEN = 6;
    private static final int MOST_FLATS = 7;
    private static final int MOST_WIRES = 10;
    private static final int MOST_USES = 8;

    private static final int TOP_RATING = 99;
    private static final int TOP_HELD = 99;
    private static final int TOP_AGE = 999;
    private static final int TOP_COINS = 99999;
    private static final int TOP_QUARRELS = 999999;
    private static final int DAY_HOURS = 24;
    private static final int MOST_HOURS = 72;
    private static final int MOST_PEAK_HOURS = 48;
    private static final int MOST_FIRST_HOURS = 200;
    private static final int MOST_THICKER = 20;
    private static final int MOST_SEEDS = 20;
    private static final int MOST_CUT = 3;
    private static final int MOST_TOLD = 20;
    private static final int MOST_UNDONE = 40;
    private static final int SLOTS = 3;

    private static final int SYNTAX = 1;
    private static final int ROOM = 2;
    private static final int TWICE = 3;
    private static final int NO_NAME = 4;
    private static final int WRONG = 5;

    /** The words that are no names; a word's kind as a token is where it stands here. */
    private static final String WORDS =
            "flat wire use goes quarrel costs pays surge coins seed if then else load rating age hour day amps temper dark which ";
    private static final int WORD_COUNT = 22;
    private static final int W_FLAT = 0;
    private static final int W_WIRE = 1;
    private static final int W_USE = 2;
    private static final int W_GOES = 3;
    private static final int W_QUARREL = 4;
    private static final int W_COSTS = 5;
    private static final int W_PAYS = 6;
    private static final int W_SURGE = 7;
    private static final int W_COINS = 8;
    private static final int W_SEED = 9;
    private static final int W_IF = 10;
    private static final int W_THEN = 11;
    private static final int W_ELSE = 12;
    private static final int W_LOAD = 13;
    private static final int W_WHICH = 21;

    /** The other kinds of tokens; a sign's kind is its own byte, all of which are above these. */
    private static final int T_NAME = 22;
    private static final int T_INT = 23;
    private static final int T_END = 24;
    private static final int T_BAD = 25;

    private static final int LAWS = 4;
    private static final int GOES = 0;
    private static final int QUARREL = 1;
    private static final int COSTS = 2;
    private static final int PAYS = 3;

    private static final int VARS = 9;
    private static final int LOAD = 0;
    private static final int RATING = 1;
    private static final int AGE = 2;
    private static final int HOUR = 3;
    private static final int DAY = 4;
    private static final int AMPS = 5;
    private static final int TEMPER = 6;
    private static final int DARK = 7;
    private static final int WHICH = 8;

    private final byte[] tape = new byte[MOST_BYTES];
    private int taped = 0;
    private int faultPlace = NONE;
    private final House house = new House();
    private final House draft = new House();
    private final Tokens tokens = new Tokens();
    private final Grammar grammar = new Grammar(tokens, draft);
    private final Meaning meaning = new Meaning(tokens, draft);
    private final State state = new State();
    private final Past past = new Past();
    private final Current current = new Current(house);
    private final Foresight foresight = new Foresight(house, current);
    private final Told told = new Told(house);

    public FuseTreaty() {
        house.clear();
        state.begin(house);
    }

    // ---- the tape and the text

    public int feed(int a, int b, int c, int d, int e) {
        if (taped + FED_BYTES > MOST_BYTES) {
            return NONE;
        }
        putBytes(a);
        putBytes(b);
        putBytes(c);
        putBytes(d);
        putBytes(e);
        return taped;
    }

    private void putBytes(int four) {
        for (int shift = 24; shift >= 0 && taped < MOST_BYTES; shift -= 8) {
            tape[taped] = (byte) (four >>> shift);
            taped++;
        }
    }

    public int back(int n) {
        if (n < 0 || n > taped) {
            return NONE;
        }
        taped -= n;
        return taped;
    }

    public int read() {
        tokens.scan(tape, taped);
        taped = 0;
        draft.clear();
        int fault = grammar.check();
        faultPlace = grammar.faultAt();
        if (fault == 0) {
            fault = meaning.check();
            faultPlace = meaning.faultAt();
        }
        if (fault == 0) {
            house.copy(draft);
            current.houseIsNew();
            state.begin(house);
            past.clear();
            past.clearSlots();
            told.clear();
        }
        return fault;
    }

    public int place() {
        return faultPlace;
    }

    // ---- what there is

    private boolean isFlat(int flat) {
        return flat >= 0 && flat < house.flats;
    }

    private boolean isWire(int wire) {
        return wire >= 0 && wire < house.wires;
    }

    private boolean isUse(int use) {
        return use >= 0 && use < house.uses;
    }

    public int flat(int flat, int what) {
        if (!isFlat(flat)) {
            return NONE;
        }
        Ways ways = current.waysNow(state);
        switch (what) {
            case 0: return house.temper[flat];
            case 1: return has(ways.lit, flat) ? 1 : 0;
            case 2: return state.dark[flat];
            case 3: return has(ways.lit, flat) ? ways.steps[flat] : NOT_SO;
            case 4: return current.quarrelOf(state, flat);
            case 5: return current.ampsOf(current.usesNow(state), flat);
            default: return NONE;
        }
    }

    public int wire(int wire, int what) {
        if (!isWire(wire)) {
            return NONE;
        }
        switch (what) {
            case 0: return house.oneEnd[wire];
            case 1: return house.otherEnd[wire];
            case 2: return state.rating[wire];
            case 3: return has(state.gone, wire) ? 0 : 1;
            case 4: return state.age[wire];
            case 5: return has(state.pinned, wire) ? 1 : 0;
            case 6: return current.loadNow(state, wire);
            case 7: return current.costOf(state, wire);
            case 8: return has(current.goingNow(state), wire) ? 1 : 0;
            default: return NONE;
        }
    }

    public int use(int use, int what) {
        if (!isUse(use)) {
            return NONE;
        }
        boolean on = has(current.usesNow(state), use);
        switch (what) {
            case 0: return house.home[use];
            case 1: return house.amps[use];
            case 2: return house.from[use];
            case 3: return house.till[use];
            case 4: return has(state.agreed, use) ? 1 : 0;
            case 5: return on ? 1 : 0;
            case 6: return on ? current.payOf(state, use) : 0;
            default: return NONE;
        }
    }

    // ---- what is done

    public boolean agree(int use, boolean on) {
        if (!isUse(use) || has(state.agreed, use) == on) {
            return false;
        }
        past.keep(state);
        state.agreed ^= 1 << use;
        return true;
    }

    public int mend(int wire) {
        if (!isWire(wire)) {
            return NONE;
        }
        int cost = current.costOf(state, wire);
        if (!has(state.gone, wire) || cost > state.coins) {
            return NOT_SO;
        }
        past.keep(state);
        state.coins -= cost;
        state.gone &= ~(1 << wire);
        state.pinned &= ~(1 << wire);
        state.age[wire] = 0;
        return state.coins;
    }

    public int thicken(int wire) {
        if (!isWire(wire)) {
            return NONE;
        }
        int cost = current.costOf(state, wire);
        if (has(state.gone, wire) || state.rating[wire] >= TOP_RATING || cost > state.coins) {
            return NOT_SO;
        }
        past.keep(state);
        state.coins -= cost;
        state.rating[wire]++;
        return state.coins;
    }

    public boolean pin(int wire, boolean on) {
        if (!isWire(wire) || has(state.gone, wire) || has(state.pinned, wire) == on) {
            return false;
        }
        past.keep(state);
        state.pinned ^= 1 << wire;
        return true;
    }

    public int hours(int n) {
        if (n < 0 || n > MOST_HOURS) {
            return NONE;
        }
        if (n > 0) {
            past.keep(state);
        }
        for (int i = 0; i < n; i++) {
            current.passHour(state);
        }
        return state.hour;
    }

    public boolean undo() {
        return past.takeBack(state);
    }

    // ---- what would be

    public int way(int flat, int i) {
        if (!isFlat(flat) || i < 0) {
            return NONE;
        }
        Ways ways = current.waysNow(state);
        return has(ways.lit, flat) ? ways.wireAt(flat, i) : NOT_SO;
    }

    public int peak(int wire, int n, int what) {
        if (!isWire(wire) || n < 1 || n > MOST_PEAK_HOURS || what < 0 || what > 1) {
            return NONE;
        }
        return foresight.peakOf(state, wire, n, what == 1);
    }

    public int first(int what) {
        if (what < 0 || what > 1) {
            return NONE;
        }
        int behind = foresight.firstGone(state);
        if (behind > MOST_FIRST_HOURS) {
            return NOT_SO;
        }
        return what == 0 ? behind : foresight.firstWire();
    }

    public int together(int what) {
        if (what < 0 || what > 1) {
            return NONE;
        }
        int uses = foresight.bestTogether(state);
        return what == 0 ? foresight.payOfAll(uses) : uses;
    }

    public int when(int use) {
        return isUse(use) ? foresight.firstStart(state, use) : NONE;
    }

    public int thick(int k) {
        return k < 1 || k > MOST_THICKER ? NONE : foresight.bestThicker(state, k);
    }

    public int cut(int flat, int i) {
        if (!isFlat(flat) || i < NONE || i >= MOST_CUT) {
            return NONE;
        }
        int wires = foresight.leastCut(state, flat);
        if (wires < 0) {
            return NOT_SO;
        }
        return i == NONE ? Integer.bitCount(wires) : bitAt(wires, i);
    }

    public int share(int flat, int wire) {
        if (!isFlat(flat) || !isWire(wire)) {
            return NONE;
        }
        Ways ways = current.waysNow(state);
        return has(ways.via[flat], wire) ? current.ampsOf(current.usesNow(state), flat) : 0;
    }

    public int without(int wire) {
        return isWire(wire) ? house.allFlats() & ~house.litWithout(state.gone | 1 << wire) : NONE;
    }

    public int needed() {
        int lit = house.litWithout(state.gone);
        int wires = 0;
        for (int w = 0; w < house.wires; w++) {
            if (!has(state.gone, w) && house.litWithout(state.gone | 1 << w) != lit) {
                wires |= 1 << w;
            }
        }
        return wires;
    }

    public int hottest(int what) {
        if (what < 0 || what > 1) {
            return NOT_ASKED;
        }
        current.putOn(state, current.usesNow(state));
        int best = NONE;
        int most = 0;
        for (int w = 0; w < house.wires; w++) {
            int above = current.load[w] - state.rating[w];
            if (!has(state.gone, w) && (best == NONE || above > most)) {
                best = w;
                most = above;
            }
        }
        if (best == NONE) {
            return NO_WHOLE_WIRE;
        }
        return what == 0 ? best : most;
    }

    public int clash(int use, int other) {
        return isUse(use) && isUse(other) && use != other ? foresight.clashOf(state, use, other) : NONE;
    }

    public int then(int n, int what) {
        if (n < 0 || n > MOST_HOURS || what < 0 || what > 2) {
            return NONE;
        }
        State later = foresight.after(state, n);
        if (what == 0) {
            return later.coins - state.coins;
        }
        return what == 1 ? later.quarrels - state.quarrels : Integer.bitCount(later.gone);
    }

    public int litIn(int flat, int n) {
        if (!isFlat(flat) || n < 0 || n > MOST_HOURS) {
            return NONE;
        }
        return has(house.litWithout(foresight.after(state, n).gone), flat) ? 1 : 0;
    }

    public int year(int n, int s) {
        return n < 0 || n > MOST_HOURS || s < 1 || s > MOST_SEEDS ? NONE : foresight.calmSeeds(state, n, s);
    }

    // ---- which wire went

    public int tell(int flat, boolean lit) {
        return isFlat(flat) ? told.add(flat, lit) : NONE;
    }

    public int forget() {
        int were = told.size;
        told.clear();
        return were;
    }

    public int went(int k, int what) {
        if (k < 0 || k > told.size || what < 0 || what > 1) {
            return NONE;
        }
        int wires = told.suspects(state.gone, k);
        return what == 0 ? Integer.bitCount(wires) : wires;
    }

    public int ask(int k) {
        return k < 0 || k > told.size ? NONE : told.bestQuestion(state.gone, k);
    }

    // ---- held, gone on from, counted

    public boolean hold(int slot) {
        return past.store(slot, state);
    }

    public boolean restore(int slot) {
        return past.fetch(slot, state);
    }

    public int count(int what) {
        switch (what) {
            case 0: return house.flats;
            case 1: return house.wires;
            case 2: return house.uses;
            case 3: return state.hour;
            case 4: return state.coins;
            case 5: return state.quarrels;
            case 6: return state.gone;
            case 7: return house.litWithout(state.gone);
            case 8: return current.usesNow(state);
            case 9: return taped;
            case 10: return past.size;
            case 11: return told.size;
            case 12: return Integer.bitCount(past.slotsHeld);
            case 13: return current.isSurge(house.seed, state.hour) ? 1 : 0;
            case 14: return state.pinned;
            case 15: return wholeRatings();
            default: return NONE;
        }
    }

    private int wholeRatings() {
        int all = 0;
        for (int w = 0; w < house.wires; w++) {
            all += has(state.gone, w) ? 0 : state.rating[w];
        }
        return all;
    }

    // ---- bits

    private static boolean has(int bits, int i) {
        return (bits >>> i & 1) != 0;
    }

    /** The i-th of the bits that are set, from the lowest on; NONE if there are not so many. */
    private static int bitAt(int bits, int i) {
        int seen = 0;
        for (int b = 0; b < 32; b++) {
            if (has(bits, b)) {
                if (seen == i) {
                    return b;
                }
                seen++;
            }
        }
        return NONE;
    }

    /** The tokens of a text, up to the one that is too many, the text's end, or what is no token. */
    private static final class Tokens {
        final int[] kinds = new int[MOST_TOKENS + 1];
        private final int[] places = new int[MOST_TOKENS + 1];
        private final long[] values = new long[MOST_TOKENS + 1];
        private final long[] words = new long[WORD_COUNT];
        private byte[] text;
        private int length = 0;

        Tokens() {
            int word = 0;
            long packed = 0;
            for (int i = 0; i < WORDS.length() && word < WORD_COUNT; i++) {
                char c = WORDS.charAt(i);
                if (c == ' ') {
                    words[word] = packed;
                    word++;
                    packed = 0;
                } else {
                    packed = withLetter(packed, c);
                }
            }
        }

        void scan(byte[] bytes, int count) {
            text = bytes;
            length = Math.min(count, bytes.length);
            int at = 0;
            for (int i = 0; i <= MOST_TOKENS; i++) {
                at = pastBlanks(at);
                places[i] = at;
                at = scanOne(i, at);
                if (kinds[i] == T_END || kinds[i] == T_BAD) {
                    return;
                }
            }
        }

        int kindAt(int i) {
            return i >= 0 && i <= MOST_TOKENS ? kinds[i] : T_END;
        }

        int placeAt(int i) {
            return i >= 0 && i <= MOST_TOKENS ? places[i] : length;
        }

        int numberAt(int i) {
            return (int) nameAt(i);
        }

        long nameAt(int i) {
            return i >= 0 && i <= MOST_TOKENS ? values[i] : 0;
        }

        private static long withLetter(long packed, int letter) {
            return packed * 27 + (letter - 'a' + 1);
        }

        private int byteAt(int at) {
            return text != null && at >= 0 && at < length && at < text.length ? text[at] & 255 : 0;
        }

        private boolean isLetterAt(int at) {
            int b = byteAt(at);
            return b >= 'a' && b <= 'z';
        }

        private boolean isDigitAt(int at) {
            int b = byteAt(at);
            return b >= '0' && b <= '9';
        }

        private int pastBlanks(int from) {
            for (int at = from; at < length; at++) {
                int b = byteAt(at);
                if (b != 9 && b != 10 && b != 13 && b != 32) {
                    return at;
                }
            }
            return length;
        }

        /** Tells the i-th token, which begins at a byte; answers where it ends. */
        private int scanOne(int i, int at) {
            if (at >= length) {
                kinds[i] = T_END;
                return at;
            }
            if (isLetterAt(at)) {
                return scanLetters(i, at);
            }
            if (isDigitAt(at)) {
                return scanDigits(i, at);
            }
            kinds[i] = signOf(byteAt(at));
            return at + 1;
        }

        private static int signOf(int b) {
            switch (b) {
                case ';': case '=': case '+': case '-': case '*': case '/': case '<': case '(': case ')':
                    return b;
                default:
                    return T_BAD;
            }
        }

        private int scanLetters(int i, int from) {
            long packed = 0;
            int at = from;
            while (at < length && at - from <= MOST_LETTERS && isLetterAt(at)) {
                packed = withLetter(packed, byteAt(at));
                at++;
            }
            values[i] = packed;
            kinds[i] = at - from > MOST_LETTERS ? T_BAD : wordOrName(packed);
            return at;
        }

        private int wordOrName(long packed) {
            for (int w = 0; w < WORD_COUNT; w++) {
                if (words[w] == packed) {
                    return w;
                }
            }
            return T_NAME;
        }

        private int scanDigits(int i, int from) {
            long number = 0;
            int at = from;
            while (at < length && at - from <= MOST_DIGITS && isDigitAt(at)) {
                number = number * 10 + (byteAt(at) - '0');
                at++;
            }
            values[i] = number;
            kinds[i] = at - from > MOST_DIGITS ? T_BAD : T_INT;
            return at;
        }
    }

    /** Looks for faults of SYNTAX and ROOM, and puts the laws into the house as it goes by them. */
    private static final class Grammar {
        private final Tokens tokens;
        private final Laws laws;
        private int next = 0;
        private int fault = 0;
        private int flats = 0;
        private int wires = 0;
        private int uses = 0;

        Grammar(Tokens tokens, House house) {
            this.tokens = tokens;
            this.laws = house.laws;
        }

        int check() {
            next = 0;
            fault = 0;
            flats = 0;
            wires = 0;
            uses = 0;
            for (int i = 0; i <= MOST_TOKENS && fault == 0 && kind() != T_END; i++) {
                checkTold(kind());
            }
            return fault;
        }

        private void checkTold(int kind) {
            switch (kind) {
                case W_FLAT:
                    flats++;
                    checkCounted(flats, MOST_FLATS, 1, 1);
                    break;
                case W_WIRE:
                    wires++;
                    checkCounted(wires, MOST_WIRES, 2, 1);
                    break;
                case W_USE:
                    uses++;
                    checkCounted(uses, MOST_USES, 2, 3);
                    break;
                case W_GOES:
                case W_QUARREL:
                case W_COSTS:
                case W_PAYS:
                    checkLaw(kind - W_GOES);
                    break;
                case W_SURGE:
                    checkRow(0, 2);
                    break;
                case W_COINS:
                case W_SEED:
                    checkRow(0, 1);
                    break;
                default:
                    fault = SYNTAX;
            }
        }

        int faultAt() {
            return fault == 0 ? NONE : tokens.placeAt(next);
        }

        private int kind() {
            return next >= 0 && next <= MOST_TOKENS ? tokens.kinds[next] : T_END;
        }

        private boolean fail(int sort) {
            fault = sort;
            return false;
        }

        /** A token that could stand here is gone by: so one that is too many is a fault of ROOM, not of SYNTAX. */
        private boolean step() {
            if (next >= MOST_TOKENS) {
                fault = ROOM;
                return false;
            }
            next++;
            return true;
        }

        private boolean need(int kind) {
            return kind() == kind ? step() : fail(SYNTAX);
        }

        /** A TELL that is no law: its word, so many names, so many numbers, and its end. */
        private void checkRow(int names, int ints) {
            boolean fine = step();
            for (int i = 0; i < names && fine; i++) {
                fine = need(T_NAME);
            }
            for (int i = 0; i < ints && fine; i++) {
                fine = need(T_INT);
            }
            if (fine) {
                need(';');
            }
        }

        private void checkCounted(int count, int most, int names, int ints) {
            if (count > most) {
                fault = ROOM;
            } else {
                checkRow(names, ints);
            }
        }

        private boolean checkLaw(int law) {
            laws.begin(law);
            if (!step() || !need('=')) {
                return false;
            }
            for (int ifs = 0; ifs <= MOST_IFS && kind() == W_IF; ifs++) {
                if (ifs == MOST_IFS) {
                    return fail(ROOM);
                }
                if (!step() || !sum(0) || !endPiece(law, '<') || !sum(0) || !endPiece(law, W_THEN)
                        || !sum(0) || !endPiece(law, W_ELSE)) {
                    return false;
                }
            }
            return sum(0) && endPiece(law, ';');
        }

        private boolean endPiece(int law, int end) {
            laws.endPiece(law);
            return need(end);
        }

        private boolean sum(int open) {
            if (!product(open)) {
                return false;
            }
            for (int i = 0; i < MOST_TOKENS && (kind() == '+' || kind() == '-'); i++) {
                int code = kind() == '+' ? Laws.ADD : Laws.SUBTRACT;
                if (!step() || !product(open)) {
                    return false;
                }
                laws.put(code);
            }
            return true;
        }

        private boolean product(int open) {
            if (!unit(open)) {
                return false;
            }
            for (int i = 0; i < MOST_TOKENS && (kind() == '*' || kind() == '/'); i++) {
                int code = kind() == '*' ? Laws.MULTIPLY : Laws.DIVIDE;
                if (!step() || !unit(open)) {
                    return false;
                }
                laws.put(code);
            }
            return true;
        }

        private boolean unit(int open) {
            int kind = kind();
            if (kind == T_INT) {
                laws.put(Laws.INTS + tokens.numberAt(next));
                return step();
            }
            if (kind >= W_LOAD && kind <= W_WHICH) {
                laws.put(Laws.VARIABLES + kind - W_LOAD);
                return step();
            }
            if (kind != '(') {
                return fail(SYNTAX);
            }
            return open >= MOST_OPEN ? fail(ROOM) : step() && sum(open + 1) && need(')');
        }
    }

    /** Looks for faults of names and numbers in a text that is right by its grammar, and puts it into the house. */
    private static final class Meaning {
        private final Tokens tokens;
        private final House house;
        private final long[] flatNames = new long[MOST_FLATS];
        private final long[] useNames = new long[MOST_USES];
        private int next = 0;
        private int fault = 0;

        Meaning(Tokens tokens, House house) {
            this.tokens = tokens;
            this.house = house;
        }

        int check() {
            next = 0;
            fault = 0;
            for (int i = 0; i <= MOST_TOKENS && fault == 0 && tokens.kindAt(next) != T_END; i++) {
                int word = tokens.kindAt(next);
                next++;
                if (takeTold(word)) {
                    skipEnd();
                }
            }
            return fault;
        }

        int faultAt() {
            return fault == 0 ? NONE : tokens.placeAt(next);
        }

        /** Goes by what is left of a law, whose tokens have been taken already, and by its sign of end. */
        private void skipEnd() {
            while (next < MOST_TOKENS && tokens.kindAt(next) != ';') {
                next++;
            }
            next++;
        }

        private boolean fail(int sort) {
            fault = sort;
            return false;
        }

        private boolean takeTold(int word) {
            switch (word) {
                case W_FLAT: return takeFlat();
                case W_WIRE: return takeWire();
                case W_USE: return takeUse();
                case W_SURGE: return takeSurge();
                case W_COINS: return takeCoins();
                case W_SEED: return takeSeed();
                default: return true;
            }
        }

        private boolean takeFlat() {
            int f = house.flats;
            if (f >= MOST_FLATS) {
                return fail(ROOM);
            }
            if (!isNewName()) {
                return false;
            }
            flatNames[f] = tokens.nameAt(next);
            next++;
            house.temper[f] = tokens.numberAt(next);
            house.flats++;
            return isWithin(0, 9);
        }

        private boolean takeWire() {
            int w = house.wires;
            if (w >= MOST_WIRES) {
                return fail(ROOM);
            }
            int one = flatNamed();
            if (one == NONE) {
                return false;
            }
            next++;
            int other = flatNamed();
            if (other == NONE) {
                return false;
            }
            if (one == other || house.isWired(one, other)) {
                return fail(TWICE);
            }
            next++;
            house.oneEnd[w] = one;
            house.otherEnd[w] = other;
            house.rating[w] = tokens.numberAt(next);
            house.wires++;
            return isWithin(1, TOP_RATING);
        }

        private boolean takeUse() {
            int u = house.uses;
            if (u >= MOST_USES) {
                return fail(ROOM);
            }
            if (!isNewName()) {
                return false;
            }
            useNames[u] = tokens.nameAt(next);
            house.uses++;
            next++;
            house.home[u] = flatNamed();
            if (house.home[u] == NONE) {
                return false;
            }
            next++;
            house.amps[u] = tokens.numberAt(next);
            house.from[u] = tokens.numberAt(next + 1);
            house.till[u] = tokens.numberAt(next + 2);
            return isWithin(1, 19) && isWithin(0, DAY_HOURS - 1) && isWithin(house.from[u], DAY_HOURS - 1);
        }

        private boolean takeSurge() {
            house.surgeShare = tokens.numberAt(next);
            house.surgeAmps = tokens.numberAt(next + 1);
            return isWithin(0, 100) && isWithin(0, 19);
        }

        private boolean takeCoins() {
            house.coins = tokens.numberAt(next);
            return isWithin(0, 999);
        }

        private boolean takeSeed() {
            house.seed = tokens.numberAt(next);
            return isWithin(0, 9999);
        }

        /** Goes by a number that is as told, and stays at one that is not. */
        private boolean isWithin(int least, int most) {
            int number = tokens.numberAt(next);
            if (number < least || number > most) {
                return fail(WRONG);
            }
            next++;
            return true;
        }

        private boolean isNewName() {
            long name = tokens.nameAt(next);
            boolean known = indexOf(flatNames, house.flats, name) != NONE || indexOf(useNames, house.uses, name) != NONE;
            return known ? fail(TWICE) : true;
        }

        private int flatNamed() {
            int flat = indexOf(flatNames, house.flats, tokens.nameAt(next));
            if (flat == NONE) {
                fault = NO_NAME;
            }
            return flat;
        }

        private static int indexOf(long[] names, int count, long name) {
            for (int i = 0; i < count && i < names.length; i++) {
                if (names[i] == name) {
                    return i;
                }
            }
            return NONE;
        }
    }

    /**
     * The four laws, each a row of pieces in a store that they share: two that are compared and one that is told for
     * each if, then the last one. A piece tells its operands ahead of what is done with them.
     */
    private static final class Laws {
        static final int ADD = 0;
        static final int SUBTRACT = 1;
        static final int MULTIPLY = 2;
        static final int DIVIDE = 3;
        static final int VARIABLES = 4;
        static final int INTS = VARIABLES + VARS;
        private static final int DEFAULTS = 6;
        private static final int MOST_PIECES = 3 * MOST_IFS + 1;
        /** Each open ( leaves a sum and a product waiting: this is more than that. */
        private static final int STACK = 32;

        private final int[] codes = new int[MOST_TOKENS + DEFAULTS];
        private int size = 0;
        private final int[][] starts = new int[LAWS][MOST_PIECES + 1];
        private final int[] pieces = new int[LAWS];
        private final int[] stack = new int[STACK];
        private boolean broken = false;

        void clear() {
            size = 0;
            begin(GOES);
            put(VARIABLES + LOAD);
            put(VARIABLES + RATING);
            put(SUBTRACT);
            endPiece(GOES);
            begin(QUARREL);
            put(INTS);
            endPiece(QUARREL);
            begin(COSTS);
            put(VARIABLES + RATING);
            endPiece(COSTS);
            begin(PAYS);
            put(VARIABLES + AMPS);
            endPiece(PAYS);
        }

        void copy(Laws other) {
            System.arraycopy(other.codes, 0, codes, 0, other.size);
            size = other.size;
            for (int law = 0; law < LAWS; law++) {
                pieces[law] = other.pieces[law];
                System.arraycopy(other.starts[law], 0, starts[law], 0, MOST_PIECES + 1);
            }
        }

        void begin(int law) {
            pieces[law] = 0;
            starts[law][0] = size;
        }

        void put(int code) {
            if (size < codes.length) {
                codes[size] = code;
                size++;
            }
        }

        void endPiece(int law) {
            if (pieces[law] < MOST_PIECES) {
                pieces[law]++;
                starts[law][pieces[law]] = size;
            }
        }

        int tells(int law, int[] vars) {
            broken = false;
            int chosen = pieces[law] - 1;
            for (int p = 0; p + 2 < pieces[law]; p += 3) {
                int left = pieceTells(law, p, vars);
                int right = broken ? 0 : pieceTells(law, p + 1, vars);
                if (broken) {
                    return 0;
                }
                if (left < right) {
                    chosen = p + 2;
                    break;
                }
            }
            int told = pieceTells(law, chosen, vars);
            return broken ? 0 : told;
        }

        private int pieceTells(int law, int piece, int[] vars) {
            if (piece < 0 || piece >= MOST_PIECES) {
                return 0;
            }
            int top = 0;
            int end = starts[law][piece + 1];
            for (int i = starts[law][piece]; i < end && top < STACK; i++) {
                int code = codes[i];
                if (code >= INTS) {
                    stack[top] = code - INTS;
                    top++;
                } else if (code >= VARIABLES) {
                    stack[top] = vars[code - VARIABLES];
                    top++;
                } else if (top >= 2) {
                    top--;
                    stack[top - 1] = worked(code, stack[top - 1], stack[top]);
                }
            }
            return stack[0];
        }

        private int worked(int code, int left, int right) {
            switch (code) {
                case ADD: return left + right;
                case SUBTRACT: return left - right;
                case MULTIPLY: return left * right;
                default:
                    if (right == 0) {
                        broken = true;
                        return 0;
                    }
                    return left / right;
            }
        }
    }

    /** What a text tells; it stays until another one is read. */
    private static final class House {
        int flats = 0;
        int wires = 0;
        int uses = 0;
        int surgeShare = 0;
        int surgeAmps = 0;
        int coins = 0;
        int seed = 0;
        final int[] temper = new int[MOST_FLATS];
        final int[] oneEnd = new int[MOST_WIRES];
        final int[] otherEnd = new int[MOST_WIRES];
        final int[] rating = new int[MOST_WIRES];
        final int[] home = new int[MOST_USES];
        final int[] amps = new int[MOST_USES];
        final int[] from = new int[MOST_USES];
        final int[] till = new int[MOST_USES];
        final Laws laws = new Laws();

        void clear() {
            flats = 0;
            wires = 0;
            uses = 0;
            surgeShare = 0;
            surgeAmps = 0;
            coins = 100;
            seed = 0;
            laws.clear();
        }

        void copy(House other) {
            flats = other.flats;
            wires = other.wires;
            uses = other.uses;
            surgeShare = other.surgeShare;
            surgeAmps = other.surgeAmps;
            coins = other.coins;
            seed = other.seed;
            System.arraycopy(other.temper, 0, temper, 0, MOST_FLATS);
            System.arraycopy(other.oneEnd, 0, oneEnd, 0, MOST_WIRES);
            System.arraycopy(other.otherEnd, 0, otherEnd, 0, MOST_WIRES);
            System.arraycopy(other.rating, 0, rating, 0, MOST_WIRES);
            System.arraycopy(other.home, 0, home, 0, MOST_USES);
            System.arraycopy(other.amps, 0, amps, 0, MOST_USES);
            System.arraycopy(other.from, 0, from, 0, MOST_USES);
            System.arraycopy(other.till, 0, till, 0, MOST_USES);
            laws.copy(other.laws);
        }

        boolean isWired(int one, int other) {
            int both = 1 << one | 1 << other;
            for (int w = 0; w < wires; w++) {
                if (endsOf(w) == both) {
                    return true;
                }
            }
            return false;
        }

        private int endsOf(int wire) {
            return 1 << oneEnd[wire] | 1 << otherEnd[wire];
        }

        int allFlats() {
            return (1 << flats) - 1;
        }

        /** The flats that are lit if these wires are gone, and no others. */
        int litWithout(int gone) {
            int lit = flats > 0 ? 1 : 0;
            for (int round = 1; round < flats; round++) {
                int before = lit;
                for (int w = 0; w < wires; w++) {
                    int ends = endsOf(w);
                    if (!has(gone, w) && (ends & lit) != 0) {
                        lit |= ends;
                    }
                }
                if (lit == before) {
                    break;
                }
            }
            return lit;
        }
    }

    /** What goes on: all that a thing done changes, and that is undone and held. */
    private static final class State {
        static final int ROW = 6 + 2 * MOST_WIRES + MOST_FLATS;

        int hour = 0;
        int coins = 0;
        int quarrels = 0;
        int gone = 0;
        int pinned = 0;
        int agreed = 0;
        final int[] rating = new int[MOST_WIRES];
        final int[] age = new int[MOST_WIRES];
        final int[] dark = new int[MOST_FLATS];

        void begin(House house) {
            hour = 0;
            coins = house.coins;
            quarrels = 0;
            gone = 0;
            pinned = 0;
            agreed = (1 << house.uses) - 1;
            System.arraycopy(house.rating, 0, rating, 0, MOST_WIRES);
            Arrays.fill(age, 0);
            Arrays.fill(dark, 0);
        }

        void copy(State other) {
            hour = other.hour;
            coins = other.coins;
            quarrels = other.quarrels;
            gone = other.gone;
            pinned = other.pinned;
            agreed = other.agreed;
            System.arraycopy(other.rating, 0, rating, 0, MOST_WIRES);
            System.arraycopy(other.age, 0, age, 0, MOST_WIRES);
            System.arraycopy(other.dark, 0, dark, 0, MOST_FLATS);
        }

        void writeTo(int[] rows, int at) {
            if (at < 0 || at > rows.length - ROW) {
                return;
            }
            rows[at] = hour;
            rows[at + 1] = coins;
            rows[at + 2] = quarrels;
            rows[at + 3] = gone;
            rows[at + 4] = pinned;
            rows[at + 5] = agreed;
            System.arraycopy(rating, 0, rows, at + 6, MOST_WIRES);
            System.arraycopy(age, 0, rows, at + 6 + MOST_WIRES, MOST_WIRES);
            System.arraycopy(dark, 0, rows, at + 6 + 2 * MOST_WIRES, MOST_FLATS);
        }

        void readFrom(int[] rows, int at) {
            if (at < 0 || at > rows.length - ROW) {
                return;
            }
            hour = rows[at];
            coins = rows[at + 1];
            quarrels = rows[at + 2];
            gone = rows[at + 3];
            pinned = rows[at + 4];
            agreed = rows[at + 5];
            System.arraycopy(rows, at + 6, rating, 0, MOST_WIRES);
            System.arraycopy(rows, at + 6 + MOST_WIRES, age, 0, MOST_WIRES);
            System.arraycopy(rows, at + 6 + 2 * MOST_WIRES, dark, 0, MOST_FLATS);
        }

        int hourOfDay() {
            return hour % DAY_HOURS;
        }

        int day() {
            return hour / DAY_HOURS;
        }
    }

    /** How it was ahead of the last things done, and what the slots hold. */
    private static final class Past {
        private final int[] rows = new int[MOST_UNDONE * State.ROW];
        private final int[] slotRows = new int[SLOTS * State.ROW];
        private int next = 0;
        int size = 0;
        int slotsHeld = 0;

        void clear() {
            next = 0;
            size = 0;
        }

        void clearSlots() {
            slotsHeld = 0;
        }

        void keep(State state) {
            state.writeTo(rows, next * State.ROW);
            next = (next + 1) % MOST_UNDONE;
            size = Math.min(size + 1, MOST_UNDONE);
        }

        boolean takeBack(State state) {
            if (size == 0) {
                return false;
            }
            next = (next + MOST_UNDONE - 1) % MOST_UNDONE;
            size--;
            state.readFrom(rows, next * State.ROW);
            return true;
        }

        boolean store(int slot, State state) {
            if (slot < 0 || slot >= SLOTS) {
                return false;
            }
            state.writeTo(slotRows, slot * State.ROW);
            slotsHeld |= 1 << slot;
            return true;
        }

        boolean fetch(int slot, State state) {
            if (slot < 0 || slot >= SLOTS || !has(slotsHeld, slot)) {
                return false;
            }
            state.readFrom(slotRows, slot * State.ROW);
            clear();
            return true;
        }
    }

    /** The ways of all flats, laid anew only when other wires are gone than those they are laid for. */
    private static final class Ways {
        private final House house;
        private int laidFor = NONE;
        private final int[] nextWire = new int[MOST_FLATS];
        final int[] steps = new int[MOST_FLATS];
        /** The wires, as bits, by which a flat's way goes; none for a flat that is not lit. */
        final int[] via = new int[MOST_FLATS];
        int lit = 0;

        Ways(House house) {
            this.house = house;
        }

        void houseIsNew() {
            laidFor = NONE;
        }

        void lay(int gone) {
            if (gone == laidFor) {
                return;
            }
            laidFor = gone;
            lit = house.flats > 0 ? 1 : 0;
            Arrays.fill(steps, NONE);
            Arrays.fill(via, 0);
            steps[0] = 0;
            for (int far = 1; far < house.flats; far++) {
                int before = lit;
                for (int w = 0; w < house.wires; w++) {
                    if (!has(gone, w)) {
                        reachBy(w, far);
                    }
                }
                if (lit == before) {
                    break;
                }
            }
        }

        /** Wires come here from the lowest on, so the first by which a flat is reached is the one of its way. */
        private void reachBy(int wire, int far) {
            boolean nearerFirst = steps[house.oneEnd[wire]] == far - 1;
            int nearer = nearerFirst ? house.oneEnd[wire] : house.otherEnd[wire];
            int flat = nearerFirst ? house.otherEnd[wire] : house.oneEnd[wire];
            if (steps[flat] == NONE && steps[nearer] == far - 1) {
                steps[flat] = far;
                nextWire[flat] = wire;
                via[flat] = via[nearer] | 1 << wire;
                lit |= 1 << flat;
            }
        }

        int wireAt(int flat, int i) {
            if (i < 0 || i >= steps[flat]) {
                return NONE;
            }
            int at = flat;
            for (int k = 0; k < i; k++) {
                int wire = nextWire[at];
                at = house.oneEnd[wire] == at ? house.otherEnd[wire] : house.oneEnd[wire];
            }
            return nextWire[at];
        }
    }

    /** What is on, what is in the wires, what the laws tell of it, and an hour that goes by. */
    private static final class Current {
        private final House house;
        private final Ways ways;
        private final int[] vars = new int[VARS];
        /** What is in each wire, as the uses were put on last. */
        final int[] load = new int[MOST_WIRES];

        Current(House house) {
            this.house = house;
            this.ways = new Ways(house);
        }

        void houseIsNew() {
            ways.houseIsNew();
        }

        Ways waysNow(State state) {
            ways.lay(state.gone);
            return ways;
        }

        int usesNow(State state) {
            return usesAt(state, state.hourOfDay());
        }

        int usesAt(State state, int hour) {
            ways.lay(state.gone);
            int on = 0;
            for (int u = 0; u < house.uses; u++) {
                boolean itsHour = house.from[u] <= hour && hour <= house.till[u];
                if (itsHour && has(state.agreed, u) && has(ways.lit, house.home[u])) {
                    on |= 1 << u;
                }
            }
            return on;
        }

        int ampsOf(int uses, int flat) {
            int amps = 0;
            for (int u = 0; u < house.uses; u++) {
                amps += has(uses, u) && house.home[u] == flat ? house.amps[u] : 0;
            }
            return amps;
        }

        /** Uses of flats that are not lit are in no wire: they have no way. */
        void putOn(State state, int uses) {
            ways.lay(state.gone);
            Arrays.fill(load, 0);
            for (int u = 0; u < house.uses; u++) {
                int via = has(uses, u) ? ways.via[house.home[u]] : 0;
                for (int w = 0; via >>> w != 0 && w < house.wires; w++) {
                    load[w] += has(via, w) ? house.amps[u] : 0;
                }
            }
        }

        int loadNow(State state, int wire) {
            putOn(state, usesNow(state));
            return load[wire];
        }

        int goingNow(State state) {
            return goingWith(state, usesNow(state));
        }

        int goingWith(State state, int uses) {
            putOn(state, uses);
            return going(state, state.hourOfDay(), 0);
        }

        /** The wires that go by what is in them; what is gone has nothing in it. */
        int going(State state, int hour, int surge) {
            int wires = 0;
            for (int w = 0; w < house.wires; w++) {
                if (load[w] > 0 && !has(state.pinned, w)) {
                    setVars(hour, state.day(), w);
                    vars[LOAD] = load[w] + surge;
                    vars[RATING] = state.rating[w];
                    vars[AGE] = state.age[w];
                    if (house.laws.tells(GOES, vars) > 0) {
                        wires |= 1 << w;
                    }
                }
            }
            return wires;
        }

        private void setVars(int hour, int day, int which) {
            Arrays.fill(vars, 0);
            vars[HOUR] = hour;
            vars[DAY] = day;
            vars[WHICH] = which;
        }

        private static int held(int told) {
            return Math.max(0, Math.min(TOP_HELD, told));
        }

        int quarrelOf(State state, int flat) {
            setVars(state.hourOfDay(), state.day(), flat);
            vars[TEMPER] = house.temper[flat];
            vars[DARK] = state.dark[flat];
            return held(house.laws.tells(QUARREL, vars));
        }

        int costOf(State state, int wire) {
            setVars(state.hourOfDay(), state.day(), wire);
            vars[RATING] = state.rating[wire];
            vars[AGE] = state.age[wire];
            return held(house.laws.tells(COSTS, vars));
        }

        int payOf(State state, int use) {
            setVars(state.hourOfDay(), state.day(), use);
            vars[AMPS] = house.amps[use];
            return held(house.laws.tells(PAYS, vars));
        }

        boolean isSurge(int seed, int hour) {
            return lot(100, seed, 4 * hour) < house.surgeShare;
        }

        int surgeOf(int seed, int hour) {
            return isSurge(seed, hour) ? house.surgeAmps : 0;
        }

        private static int lot(int n, int seed, int which) {
            int h = stirred(stirred(seed, 129), which);
            return n > 0 ? (h >>> 1) % n : 0;
        }

        private static int stirred(int h, int by) {
            int g = (h ^ by) * 1103515245 + 12345;
            return g ^ g >>> 15;
        }

        /** The wires go last, so that pay and quarrels are by how it was as the hour began. */
        void passHour(State state) {
            takePay(state);
            countQuarrels(state);
            passWires(state, surgeOf(house.seed, state.hour));
        }

        private void takePay(State state) {
            int on = usesAt(state, state.hourOfDay());
            for (int u = 0; u < house.uses; u++) {
                if (has(on, u)) {
                    state.coins = Math.min(TOP_COINS, state.coins + payOf(state, u));
                }
            }
        }

        private void countQuarrels(State state) {
            ways.lay(state.gone);
            for (int f = 0; f < house.flats; f++) {
                if (has(ways.lit, f)) {
                    state.dark[f] = 0;
                } else {
                    state.quarrels = Math.min(TOP_QUARRELS, state.quarrels + quarrelOf(state, f));
                    state.dark[f]++;
                }
            }
        }

        /** An hour as far as wires know of it, with a surge of so many amps: the wires that go. */
        int passWires(State state, int surge) {
            putOn(state, usesAt(state, state.hourOfDay()));
            int going = going(state, state.hourOfDay(), surge);
            state.gone |= going;
            for (int w = 0; w < house.wires; w++) {
                if (!has(state.gone, w)) {
                    state.age[w] = Math.min(TOP_AGE, state.age[w] + 1);
                }
            }
            state.hour++;
            return going;
        }
    }

    /** What would be: all of it happens to a state of its own. */
    private static final class Foresight {
        private final House house;
        private final Current current;
        private final State trial = new State();
        private final int[] pays = new int[MOST_USES];
        private int firstGoing = 0;

        Foresight(House house, Current current) {
            this.house = house;
            this.current = current;
        }

        int peakOf(State state, int wire, int hours, boolean asksHour) {
            trial.copy(state);
            int most = 0;
            int at = 0;
            for (int i = 0; i < hours; i++) {
                current.passWires(trial, 0);
                if (current.load[wire] > most) {
                    most = current.load[wire];
                    at = i;
                }
            }
            return asksHour ? at : most;
        }

        /** Behind how many hours a wire more is gone; more than are looked at, if none is. */
        int firstGone(State state) {
            trial.copy(state);
            return trialTillGone();
        }

        int firstWire() {
            return bitAt(firstGoing, 0);
        }

        private int trialTillGone() {
            firstGoing = 0;
            for (int behind = 1; behind <= MOST_FIRST_HOURS; behind++) {
                firstGoing = current.passWires(trial, 0);
                if (firstGoing != 0) {
                    return behind;
                }
            }
            return MOST_FIRST_HOURS + 1;
        }

        int bestThicker(State state, int k) {
            trial.copy(state);
            int latest = trialTillGone();
            int best = NOT_SO;
            for (int w = 0; w < house.wires && latest <= MOST_FIRST_HOURS; w++) {
                if (!has(state.gone, w)) {
                    trial.copy(state);
                    trial.rating[w] = Math.min(TOP_RATING, trial.rating[w] + k);
                    int behind = trialTillGone();
                    if (behind > latest) {
                        latest = behind;
                        best = w;
                    }
                }
            }
            return best;
        }

        /** Sets come from the least bits on, so only one that pays more is better; it also keeps what uses pay. */
        int bestTogether(State state) {
            int lit = current.waysNow(state).lit;
            int can = 0;
            for (int u = 0; u < house.uses; u++) {
                pays[u] = current.payOf(state, u);
                can |= has(lit, house.home[u]) ? 1 << u : 0;
            }
            int best = 0;
            int most = 0;
            for (int uses = 1; uses < 1 << house.uses; uses++) {
                if ((uses & ~can) == 0 && payOfAll(uses) > most && current.goingWith(state, uses) == 0) {
                    best = uses;
                    most = payOfAll(uses);
                }
            }
            return best;
        }

        int payOfAll(int uses) {
            int pay = 0;
            for (int u = 0; u < house.uses; u++) {
                pay += has(uses, u) ? pays[u] : 0;
            }
            return pay;
        }

        /** It is put on in every hour of the day, so its own hours, as they are, count no more than others. */
        int firstStart(State state, int use) {
            int length = house.till[use] - house.from[use] + 1;
            int calm = 0;
            for (int hour = 0; hour < DAY_HOURS; hour++) {
                current.putOn(state, current.usesAt(state, hour) | 1 << use);
                calm = current.going(state, hour, 0) == 0 ? calm + 1 : 0;
                if (calm >= length) {
                    return hour - length + 1;
                }
            }
            return NOT_SO;
        }

        /** The wires of the least cut, as bits; NONE if there is none. */
        int leastCut(State state, int flat) {
            for (int size = 0; size <= MOST_CUT; size++) {
                int wires = cutBy(house, flat, state.gone, 0, size);
                if (wires != NONE) {
                    return wires;
                }
            }
            return NONE;
        }

        /** The first so many wires, from a number on, by whose going too the flat is dark; NONE if there are none. */
        private static int cutBy(House house, int flat, int gone, int from, int size) {
            if (size <= 0) {
                return has(house.litWithout(gone), flat) ? NONE : 0;
            }
            for (int w = from; w < house.wires; w++) {
                if (!has(gone, w)) {
                    int others = cutBy(house, flat, gone | 1 << w, w + 1, size - 1);
                    if (others != NONE) {
                        return others | 1 << w;
                    }
                }
            }
            return NONE;
        }

        int clashOf(State state, int use, int other) {
            int lit = current.waysNow(state).lit;
            if (!has(lit, house.home[use]) || !has(lit, house.home[other])) {
                return 0;
            }
            int alone = current.goingWith(state, 1 << use) | current.goingWith(state, 1 << other);
            return Integer.bitCount(current.goingWith(state, 1 << use | 1 << other) & ~alone);
        }

        State after(State state, int hours) {
            trial.copy(state);
            for (int i = 0; i < hours; i++) {
                current.passHour(trial);
            }
            return trial;
        }

        int calmSeeds(State state, int hours, int seeds) {
            int calm = 0;
            for (int i = 0; i < seeds; i++) {
                calm += isCalm(state, hours, house.seed + i) ? 1 : 0;
            }
            return calm;
        }

        private boolean isCalm(State state, int hours, int seed) {
            trial.copy(state);
            for (int i = 0; i < hours; i++) {
                if (current.passWires(trial, current.surgeOf(seed, trial.hour)) != 0) {
                    return false;
                }
            }
            return true;
        }
    }

    /** What was told of flats since a wire went, and which wire that can have been. */
    private static final class Told {
        private final House house;
        private final int[] flats = new int[MOST_TOLD];
        private final boolean[] lits = new boolean[MOST_TOLD];
        int size = 0;

        Told(House house) {
            this.house = house;
        }

        void clear() {
            size = 0;
        }

        int add(int flat, boolean lit) {
            if (size >= MOST_TOLD) {
                return NONE;
            }
            flats[size] = flat;
            lits[size] = lit;
            size++;
            return size - 1;
        }

        int suspects(int gone, int known) {
            int wires = 0;
            for (int w = 0; w < house.wires; w++) {
                if (!has(gone, w) && isSo(house.litWithout(gone | 1 << w), known)) {
                    wires |= 1 << w;
                }
            }
            return wires;
        }

        private boolean isSo(int lit, int known) {
            for (int i = 0; i < known && i < size; i++) {
                if (has(lit, flats[i]) != lits[i]) {
                    return false;
                }
            }
            return true;
        }

        int bestQuestion(int gone, int known) {
            int wires = suspects(gone, known);
            int best = NOT_SO;
            int fewest = Integer.MAX_VALUE;
            for (int f = 0; f < house.flats && wires != 0; f++) {
                int left = leftAtWorst(gone, wires, f);
                if (left < fewest) {
                    fewest = left;
                    best = f;
                }
            }
            return best;
        }

        private int leftAtWorst(int gone, int wires, int flat) {
            int lit = 0;
            for (int w = 0; w < house.wires; w++) {
                lit += has(wires, w) && has(house.litWithout(gone | 1 << w), flat) ? 1 : 0;
            }
            return Math.max(lit, Integer.bitCount(wires) - lit);
        }
    }
}
