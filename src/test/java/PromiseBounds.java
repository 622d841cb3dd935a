import java.util.function.ToIntFunction;

/** The sentences of the promises, 1 to 36: each call within its bounds, beyond them, and refused. */
final class PromiseBounds {
    private static final int NONE = FuseTreaty.NONE;
    private static final int NOT_SO = -2;
    private static final int BLANKS = 0x20202020;

    private PromiseBounds() { }

    static void run() {
        newObject();
        feed();
        feedRefused();
        back();
        backRefused();
        read();
        place();
        flat();
        wire();
        use();
        agree();
        mend();
        thicken();
        pin();
        hours();
        undo();
        way();
        peak();
        first();
        together();
        when();
        thick();
        cut();
        share();
        without();
        needed();
        hottest();
        clash();
        then();
        litIn();
        year();
        tell();
        forget();
        went();
        ask();
        hold();
        restore();
        count();
    }

    /** A house with five flats, wires and uses, in hour 7; wires 0, 1 and 3 are gone, things can be undone, are told and held. */
    private static FuseTreaty busy() {
        FuseTreaty x = Says.with(Says.SQUARE + "costs = rating + age; quarrel = temper + dark; coins 50;");
        x.hours(3);
        x.hold(1);
        x.hours(4);
        x.pin(2, true);
        x.agree(3, false);
        x.thicken(2);
        x.tell(4, false);
        x.tell(3, true);
        x.feed(BLANKS, BLANKS, BLANKS, BLANKS, 0x20202021);
        return x;
    }

    private static void refused(String call, ToIntFunction<FuseTreaty> asked, int answer) {
        Says.refused(PromiseBounds::busy, call, asked, answer);
    }

    private static final int[] NO_FIVE = {-1, 5, 6, 7, 8, 10, 31, 32, 33, 64, -32, Says.MAX, Says.MIN};

    private static void newObject() {
        Says.says("`FuseTreaty()`: No FLATS, no WIRES.");
        FuseTreaty x = new FuseTreaty();
        for (int i = 0; i < 16; i++) Says.eq("count(" + i + ")", x.count(i), i == 4 ? 100 : 0);
        Says.eq("place()", x.place(), NONE);
        Says.eq("flat 0", x.flat(0, 0), NONE);
        Says.eq("wire 0", x.wire(0, 0), NONE);
        Says.eq("use 0", x.use(0, 0), NONE);
        Says.is("undo()", x.undo(), false);
        for (int slot = 0; slot < 3; slot++) Says.is("restore(" + slot + ")", x.restore(slot), false);
        Says.eq("forget()", x.forget(), 0);
        Says.eq("way(0, 0)", x.way(0, 0), NONE);
        Says.eq("cut(0, NONE)", x.cut(0, NONE), NONE);
        Says.eq("tell(0, true)", x.tell(0, true), NONE);
        Says.eq("hours(72)", x.hours(72), 72);
        Says.is("undo()", x.undo(), true);
        Says.eq("count(3)", x.count(3), 0);
    }

    private static void feed() {
        Says.says("`int feed(int a, int b, int c, int d, int e)`: Twenty bytes, the highest of a first, come behind the tape: how many it has.");
        for (int i = 0; i < 20; i++) {
            int[] v = {BLANKS, BLANKS, BLANKS, BLANKS, BLANKS};
            v[i / 4] ^= 0x20 << 24 - i % 4 * 8;
            FuseTreaty x = new FuseTreaty();
            Says.eq("feed", x.feed(v[0], v[1], v[2], v[3], v[4]), 20);
            Says.eq("a byte 0", x.read(), 1);
            Says.eq("the byte " + i, x.place(), i);
        }
        FuseTreaty x = new FuseTreaty();
        Says.eq("feed", x.feed(BLANKS, BLANKS, BLANKS, BLANKS, BLANKS), 20);
        Says.eq("behind the tape", x.feed(Says.MIN, -1, Says.MAX, 0, -1), 40);
        Says.eq("read()", x.read(), 1);
        Says.eq("place()", x.place(), 20);
        Says.eq("all bits of all bytes", Texts.read(x, "flat abcxyz 7;"), 0);
        Says.eq("flat 0", x.flat(0, 0), 7);
    }

    private static void feedRefused() {
        Says.says("NONE, and nothing comes, if it would have more than 2,000.");
        FuseTreaty x = new FuseTreaty();
        for (int i = 1; i <= 100; i++) Says.eq("feed", x.feed(BLANKS, BLANKS, BLANKS, BLANKS, BLANKS), 20 * i);
        Says.eq("2,020 bytes", x.feed(-1, -1, -1, -1, -1), NONE);
        Says.eq("nothing comes", x.count(9), 2000);
        for (int had = 1999; had > 1980; had--) {
            Says.eq("back(1)", x.back(1), had);
            Says.eq((had + 20) + " bytes", x.feed(-1, -1, -1, -1, -1), NONE);
            Says.eq("nothing comes", x.count(9), had);
        }
        Says.eq("back(1)", x.back(1), 1980);
        Says.eq("2,000 bytes", x.feed(BLANKS, BLANKS, BLANKS, BLANKS, BLANKS), 2000);
        Says.eq("nothing but blanks came", x.read(), 0);
        Says.refused(() -> {
            FuseTreaty y = busy();
            for (int i = 0; i < 99; i++) y.feed(BLANKS, BLANKS, BLANKS, BLANKS, BLANKS);
            return y;
        }, "feed(-1, -1, -1, -1, -1)", y -> y.feed(-1, -1, -1, -1, -1), NONE);
    }

    private static void back() {
        Says.says("`int back(int n)`: The last n bytes of the tape go: how many it has.");
        FuseTreaty x = new FuseTreaty();
        x.feed(0x666c6174, 0x20612031, 0x3b3f3f3f, -1, -1);
        Says.eq("back(0)", x.back(0), 20);
        Says.eq("back(1)", x.back(1), 19);
        Says.eq("back(10): what is left is flat a 1;", x.back(10), 9);
        Says.eq("count(9)", x.count(9), 9);
        Says.eq("read()", x.read(), 0);
        Says.eq("flats", x.count(0), 1);
        x.feed(-1, -1, -1, -1, -1);
        Says.eq("all of them", x.back(20), 0);
        Says.eq("none of none", x.back(0), 0);
        x.feed(BLANKS, BLANKS, BLANKS, BLANKS, BLANKS);
        Says.eq("what was taken is gone", x.read(), 0);
    }

    private static void backRefused() {
        Says.says("NONE, and nothing goes, if it has not so many, or n is below 0.");
        refused("back(21) of 20", x -> x.back(21), NONE);
        refused("back(-1)", x -> x.back(-1), NONE);
        refused("back(MIN)", x -> x.back(Says.MIN), NONE);
        refused("back(MAX)", x -> x.back(Says.MAX), NONE);
        FuseTreaty x = busy();
        Says.eq("back(20)", x.back(20), 0);
        Says.eq("back(1) of none", x.back(1), NONE);
        Says.eq("count(9)", x.count(9), 0);
    }

    private static void read() {
        Says.says("`int read()`: The tape, which is empty then, is read: 0, or the number of its FAULT.");
        String[] texts = {"flat a 1;", "flat a 1", "goes = (((((((1)))))));", "flat a 1;flat a 1;", "wire a b 1;", "flat a 10;"};
        for (int fault = 0; fault < 6; fault++) {
            FuseTreaty x = new FuseTreaty();
            Texts.feed(x, texts[fault]);
            Says.eq("bytes of " + texts[fault], x.count(9), texts[fault].length());
            Says.eq("read of " + texts[fault], x.read(), fault);
            Says.eq("empty then", x.count(9), 0);
            Says.eq("nothing goes back", x.back(1), NONE);
            Says.eq("read of an empty tape", x.read(), 0);
            Says.eq("no flats by that", x.count(0), 0);
        }
        FuseTreaty x = Says.with("flat a 1;flat b 1;");
        Says.eq("the number of its fault", Texts.read(x, "flat c 1;flat c 1;"), 3);
        Says.eq("two flats still", x.count(0), 2);
    }

    private static void place() {
        Says.says("`int place()`: The byte of the latest read()'s FAULT; NONE without.");
        FuseTreaty x = new FuseTreaty();
        Says.eq("no read yet", x.place(), NONE);
        Texts.read(x, "?");
        Says.eq("the first byte", x.place(), 0);
        Says.eq("it stays", x.place(), 0);
        Texts.read(x, "flat a 10;");
        Says.eq("the latest", x.place(), 7);
        x.hours(3);
        x.undo();
        x.feed(0, 0, 0, 0, 0);
        Says.eq("other calls do not change it", x.place(), 7);
        x.back(20);
        Texts.read(x, "flat a 9;");
        Says.eq("without", x.place(), NONE);
        Texts.read(x, Says.blanks(1999) + "?");
        Says.eq("the last byte", x.place(), 1999);
        Texts.read(x, Says.blanks(1996) + "seed");
        Says.eq("the end of the longest text", x.place(), 2000);
    }

    private static void flat() {
        Says.says("`int flat(int flat, int what)`: Of a FLAT: what 0 TEMPER, 1: 1 LIT, else 0, 2 for how many hours it is DARK,"
            + " 3 how many WIRES its WAY has (-2: not LIT), 4 QUARREL now, 5 AMPS of its USES ON. NONE for others.");
        FuseTreaty x = Says.with(Says.SQUARE + "quarrel = temper + dark * 3;");
        x.hours(4);
        int[][] due = {{2, 1, 0, 0, 2, 0}, {3, 1, 0, 1, 3, 5}, {5, 1, 0, 2, 5, 7}, {1, 1, 0, 1, 1, 0}, {9, 1, 0, 3, 9, 1}};
        for (int f = 0; f < 5; f++) for (int i = 0; i < 6; i++) Says.eq("flat(" + f + ", " + i + ")", x.flat(f, i), due[f][i]);
        x.hours(4);
        int[][] later = {{2, 1, 0, 0, 2, 0}, {3, 0, 3, -2, 12, 0}, {5, 0, 2, -2, 11, 0}, {1, 1, 0, 1, 1, 0}, {9, 0, 2, -2, 15, 0}};
        for (int f = 0; f < 5; f++) for (int i = 0; i < 6; i++) Says.eq("flat(" + f + ", " + i + ") later", x.flat(f, i), later[f][i]);
        for (int f : NO_FIVE) for (int i = -1; i < 7; i++) Says.eq("flat(" + f + ", " + i + ")", x.flat(f, i), NONE);
        for (int i : new int[] {-1, 6, 7, 32, Says.MAX, Says.MIN}) for (int f = 0; f < 5; f++) Says.eq("flat(" + f + ", " + i + ")", x.flat(f, i), NONE);
    }

    private static void wire() {
        Says.says("`int wire(int wire, int what)`: Of a WIRE: what 0, 1 its FLATS (the one told first is first), 2 RATING, 3: 1 whole, 0 GONE, 4 age,"
            + " 5: 1 PINNED, else 0, 6 LOAD now, 7 COSTS now, 8: 1 it would go in this hour (no SURGE), else 0. NONE for others.");
        FuseTreaty x = Says.with(Says.SQUARE + "costs = rating + age * 2 + which; surge 100 9;");
        x.pin(0, true);
        x.pin(1, true);
        x.pin(4, true);
        x.hours(4);
        x.pin(1, false);
        int[][] due = {{0, 1, 10, 1, 4, 1, 13, 18, 0}, {1, 2, 6, 1, 4, 0, 8, 15, 1}, {0, 3, 8, 1, 4, 0, 0, 18, 0},
            {3, 2, 4, 1, 4, 0, 0, 15, 0}, {2, 4, 5, 1, 4, 1, 1, 17, 0}};
        for (int w = 0; w < 5; w++) for (int i = 0; i < 9; i++) Says.eq("wire(" + w + ", " + i + ")", x.wire(w, i), due[w][i]);
        x.hours(1);
        int[] gone = {1, 2, 6, 0, 4, 0, 0, 15, 0};
        for (int i = 0; i < 9; i++) Says.eq("wire(1, " + i + ") once gone", x.wire(1, i), gone[i]);
        Says.eq("told the other way", Says.with("flat a 0;flat b 0;wire b a 1;").wire(0, 0), 1);
        Says.eq("told the other way", Says.with("flat a 0;flat b 0;wire b a 1;").wire(0, 1), 0);
        Says.eq("no surge", Says.with(Says.PAIR + "surge 100 19;").wire(0, 8), 0);
        for (int w : NO_FIVE) for (int i = -1; i < 10; i++) Says.eq("wire(" + w + ", " + i + ")", x.wire(w, i), NONE);
        for (int i : new int[] {-1, 9, 10, 32, Says.MAX, Says.MIN}) for (int w = 0; w < 5; w++) Says.eq("wire(" + w + ", " + i + ")", x.wire(w, i), NONE);
    }

    private static void use() {
        Says.says("`int use(int use, int what)`: Of a USE: what 0 its FLAT, 1 AMPS, 2 FROM, 3 TILL, 4: 1 agreed, else 0, 5: 1 ON now, else 0,"
            + " 6 PAYS now. NONE for others.");
        FuseTreaty x = Says.with(Says.SQUARE + "pays = amps * 2 + which + hour;");
        x.agree(4, false);
        x.hours(4);
        int[][] due = {{1, 5, 0, 5, 1, 1, 14}, {2, 3, 2, 8, 1, 1, 11}, {2, 4, 4, 6, 1, 1, 14}, {3, 7, 20, 23, 1, 0, 0}, {4, 1, 1, 23, 0, 0, 0}};
        for (int u = 0; u < 5; u++) for (int i = 0; i < 7; i++) Says.eq("use(" + u + ", " + i + ")", x.use(u, i), due[u][i]);
        for (int u : NO_FIVE) for (int i = -1; i < 8; i++) Says.eq("use(" + u + ", " + i + ")", x.use(u, i), NONE);
        for (int i : new int[] {-1, 7, 8, 32, Says.MAX, Says.MIN}) for (int u = 0; u < 5; u++) Says.eq("use(" + u + ", " + i + ")", x.use(u, i), NONE);
    }

    private static void agree() {
        Says.says("`boolean agree(int use, boolean on)`: Agreed, or no more: true; false, and nothing happens: it is so, no such USE.");
        FuseTreaty x = busy();
        for (int u = 0; u < 5; u++) {
            boolean was = u != 3;
            Says.is("agree(" + u + ")", x.agree(u, !was), true);
            Says.eq("agreed", x.use(u, 4), was ? 0 : 1);
            Says.is("agree(" + u + ") back", x.agree(u, was), true);
            Says.eq("agreed", x.use(u, 4), was ? 1 : 0);
        }
        Says.eq("ten things done", x.count(10), 15);
        refused("agree(0, true): it is so", y -> Says.bit(y.agree(0, true)), 0);
        refused("agree(3, false): it is so", y -> Says.bit(y.agree(3, false)), 0);
        for (int u : NO_FIVE) {
            refused("agree(" + u + ", true)", y -> Says.bit(y.agree(u, true)), 0);
            refused("agree(" + u + ", false)", y -> Says.bit(y.agree(u, false)), 0);
        }
    }

    private static void mend() {
        Says.says("`int mend(int wire)`: MENDED: COINS then; -2, and nothing happens: it is whole, not so many COINS; NONE: no such WIRE.");
        String worn = Says.PAIR + "goes = age - 3; costs = rating + age; pays = 0; coins ";
        Says.refused(() -> Says.with(worn + "8;", 5), "mend(0) for 9 of 8", x -> x.mend(0), NOT_SO);
        Says.eq("mend(0) for 9 of 9", Says.with(worn + "9;", 5).mend(0), 0);
        Says.eq("mend(0) for 9 of 10", Says.with(worn + "10;", 5).mend(0), 1);
        Says.refused(() -> Says.with(worn + "10;", 4), "mend(0) of a whole one", x -> x.mend(0), NOT_SO);
        FuseTreaty x = Says.with(worn + "10;", 5);
        x.mend(0);
        Says.eq("a second time it is whole", x.mend(0), NOT_SO);
        Says.eq("coins", x.count(4), 1);
        Says.eq("two things done", x.count(10), 2);
        FuseTreaty free = Says.with(Says.PAIR + "goes = 1; costs = 0; pays = 0; coins 0;", 1);
        Says.eq("for nothing, of nothing", free.mend(0), 0);
        Says.eq("whole", free.count(6), 0);
        refused("mend(2): it is whole", y -> y.mend(2), NOT_SO);
        refused("mend(4): it is whole", y -> y.mend(4), NOT_SO);
        for (int w : NO_FIVE) refused("mend(" + w + ")", y -> y.mend(w), NONE);
    }

    private static void thicken() {
        Says.says("`int thicken(int wire)`: THICKENED: COINS then; -2, and nothing happens: it is GONE, RATING 99, not so many COINS; NONE: no such WIRE.");
        Says.eq("for 5 of 5", Says.with(Says.PAIR + "coins 5;").thicken(0), 0);
        Says.eq("for 5 of 6", Says.with(Says.PAIR + "coins 6;").thicken(0), 1);
        Says.refused(() -> Says.with(Says.PAIR + "coins 4;"), "thicken(0) for 5 of 4", x -> x.thicken(0), NOT_SO);
        String thick = "flat m 0; flat a 0; wire m a ";
        Says.eq("rating 98", Says.with(thick + "98; coins 999;").thicken(0), 901);
        Says.refused(() -> Says.with(thick + "99; coins 999;"), "thicken(0) of rating 99", x -> x.thicken(0), NOT_SO);
        Says.refused(() -> Says.with(thick + "99; coins 0; costs = 0;"), "thicken(0) of rating 99, for nothing", x -> x.thicken(0), NOT_SO);
        Says.refused(() -> Says.with(Says.PAIR + "goes = 1; costs = 0;", 1), "thicken(0) of one gone", x -> x.thicken(0), NOT_SO);
        refused("thicken(0): it is gone", x -> x.thicken(0), NOT_SO);
        refused("thicken(1): it is gone", x -> x.thicken(1), NOT_SO);
        for (int w : NO_FIVE) refused("thicken(" + w + ")", x -> x.thicken(w), NONE);
    }

    private static void pin() {
        Says.says("`boolean pin(int wire, boolean on)`: PINNED, or the pin taken: true; false, and nothing happens: it is so, it is GONE, no such WIRE.");
        FuseTreaty x = busy();
        Says.is("pin(2, false)", x.pin(2, false), true);
        Says.eq("pins", x.count(14), 0);
        Says.is("pin(4, true)", x.pin(4, true), true);
        Says.eq("pins", x.count(14), 16);
        Says.eq("wire(4, 5)", x.wire(4, 5), 1);
        Says.eq("two things done", x.count(10), 7);
        refused("pin(2, true): it is so", y -> Says.bit(y.pin(2, true)), 0);
        refused("pin(4, false): it is so", y -> Says.bit(y.pin(4, false)), 0);
        refused("pin(0, true): it is gone", y -> Says.bit(y.pin(0, true)), 0);
        refused("pin(0, false): it is gone", y -> Says.bit(y.pin(0, false)), 0);
        for (int w : NO_FIVE) {
            refused("pin(" + w + ", true)", y -> Says.bit(y.pin(w, true)), 0);
            refused("pin(" + w + ", false)", y -> Says.bit(y.pin(w, false)), 0);
        }
    }

    private static void hours() {
        Says.says("`int hours(int n)`: n HOURS (0 .. 72; 0 is no thing done) go by: which it is, counted on; NONE, and nothing happens: no such n.");
        FuseTreaty x = busy();
        Says.eq("hours(1)", x.hours(1), 8);
        Says.eq("hours(72)", x.hours(72), 80);
        Says.eq("two things done", x.count(10), 7);
        Says.eq("hours(71)", x.hours(71), 151);
        Says.eq("hours(0)", x.hours(0), 151);
        Says.eq("no thing done", x.count(10), 8);
        refused("hours(0)", y -> y.hours(0), 7);
        for (int n : new int[] {-1, -72, 73, 74, 144, Says.MAX, Says.MIN}) refused("hours(" + n + ")", y -> y.hours(n), NONE);
    }

    private static void undo() {
        Says.says("`boolean undo()`: The last thing done (agree, mend, thicken, pin, hours) is undone: true; false: there is none (the last 40 can be).");
        undone("agree(0, false)", x -> Says.bit(x.agree(0, false)), 1);
        undone("agree(3, true)", x -> Says.bit(x.agree(3, true)), 1);
        undone("mend(3)", x -> x.mend(3), 76);
        undone("thicken(4)", x -> x.thicken(4), 73);
        undone("pin(4, true)", x -> Says.bit(x.pin(4, true)), 1);
        undone("pin(2, false)", x -> Says.bit(x.pin(2, false)), 1);
        undone("hours(1)", x -> x.hours(1), 8);
        undone("hours(72)", x -> x.hours(72), 79);
        Says.refused(() -> Says.with(Says.PAIR), "undo() of nothing", x -> Says.bit(x.undo()), 0);
        undoForty();
    }

    /** A thing done on a busy house, and undone: the house goes on as one in which it was never done. */
    private static void undone(String call, ToIntFunction<FuseTreaty> done, int answer) {
        FuseTreaty x = busy();
        FuseTreaty twin = busy();
        Says.eq(call, done.applyAsInt(x), answer);
        Says.eq(call + " can be undone", x.count(10), twin.count(10) + 1);
        Says.is("undo()", x.undo(), true);
        Says.alike(call + " is undone", Says.all(x), Says.all(twin));
        Says.alike(call + " is undone, and what was done ahead of it", Says.depths(x), Says.depths(twin));
    }

    private static void undoForty() {
        for (int done : new int[] {1, 39, 40, 41, 79, 80, 81, 200}) {
            FuseTreaty x = Says.with(Says.PAIR);
            for (int i = 0; i < done; i++) x.hours(1);
            int can = Math.min(done, 40);
            Says.eq("can be undone of " + done, x.count(10), can);
            for (int i = 1; i <= can; i++) {
                Says.is("undo()", x.undo(), true);
                Says.eq("the hour", x.count(3), done - i);
            }
            Says.is("no more", x.undo(), false);
            Says.eq("nothing happens", x.count(3), done - can);
            x.hours(5);
            Says.eq("one again", x.count(10), 1);
            Says.is("undo()", x.undo(), true);
            Says.is("no more", x.undo(), false);
            Says.eq("the hour", x.count(3), done - can);
        }
        FuseTreaty told = busy();
        told.tell(0, false);
        Says.is("undo()", told.undo(), true);
        Says.eq("what is told is no thing done", told.count(11), 3);
        Says.eq("nor the tape", told.count(9), 20);
        Says.eq("nor what is held", told.count(12), 1);
        Says.eq("it was the thickening", told.wire(2, 2), 8);
    }

    private static void way() {
        Says.says("`int way(int flat, int i)`: The i-th WIRE of a FLAT's WAY; -2: it is not LIT; NONE: no such FLAT, not so many, i below 0.");
        FuseTreaty x = Says.with(Says.SQUARE);
        int[] due = {4, 1, 0};
        for (int i = 0; i < 3; i++) Says.eq("way(4, " + i + ")", x.way(4, i), due[i]);
        for (int i : new int[] {3, 4, 32, Says.MAX, -1, -2, Says.MIN}) Says.eq("way(4, " + i + ")", x.way(4, i), NONE);
        Says.eq("flat 0 has none", x.way(0, 0), NONE);
        FuseTreaty dark = busy();
        for (int i : new int[] {0, 1, 7, Says.MAX}) Says.eq("not lit: way(4, " + i + ")", dark.way(4, i), NOT_SO);
        Says.eq("lit still", dark.way(3, 0), 2);
        for (int f : NO_FIVE) refused("way(" + f + ", 0)", y -> y.way(f, 0), NONE);
        refused("way(4, 0)", y -> y.way(4, 0), NOT_SO);
    }

    private static void peak() {
        Says.says("`int peak(int wire, int n, int what)`: PEAK: what 0 how much, 1 in which hour (0: this one); NONE: no such ones.");
        FuseTreaty x = Says.with(Says.SQUARE);
        Says.eq("how much", x.peak(0, 24, 0), 13);
        Says.eq("in which hour", x.peak(0, 24, 1), 4);
        Says.eq("0: this one", x.peak(0, 1, 1), 0);
        Says.eq("48 hours", x.peak(4, 48, 1), 1);
        for (int w : NO_FIVE) Says.eq("peak(" + w + ", 1, 0)", x.peak(w, 1, 0), NONE);
        for (int n : new int[] {0, -1, 49, 72, Says.MAX, Says.MIN}) {
            for (int what = 0; what < 2; what++) Says.eq("peak(0, " + n + ", " + what + ")", x.peak(0, n, what), NONE);
        }
        for (int what : new int[] {-1, 2, 3, Says.MAX, Says.MIN}) Says.eq("peak(0, 1, " + what + ")", x.peak(0, 1, what), NONE);
        refused("peak(5, 1, 0)", y -> y.peak(5, 1, 0), NONE);
        refused("peak(0, 49, 0)", y -> y.peak(0, 49, 0), NONE);
        refused("peak(0, 1, 2)", y -> y.peak(0, 1, 2), NONE);
    }

    private static void first() {
        Says.says("`int first(int what)`: FIRST: what 0 behind how many HOURS, 1 which; -2: none; NONE for others.");
        FuseTreaty x = Says.with(Says.SQUARE);
        Says.eq("behind how many", x.first(0), 5);
        Says.eq("which", x.first(1), 0);
        x.agree(1, false);
        x.agree(2, false);
        Says.eq("none", x.first(0), NOT_SO);
        Says.eq("none", x.first(1), NOT_SO);
        for (int what : new int[] {-1, 2, 3, Says.MAX, Says.MIN}) refused("first(" + what + ")", y -> y.first(what), NONE);
    }

    private static void together() {
        Says.says("`int together(int what)`: TOGETHER: what 0 how much, 1 which (bits). NONE for others.");
        FuseTreaty x = Says.with(Says.SQUARE);
        Says.eq("how much: ann 5, bob 4, cid 7, eve 1", x.together(0), 17);
        Says.eq("which", x.together(1), 1 + 4 + 8 + 16);
        Says.eq("nothing", new FuseTreaty().together(1), 0);
        for (int what : new int[] {-1, 2, 3, Says.MAX, Says.MIN}) refused("together(" + what + ")", y -> y.together(what), NONE);
    }

    private static void when() {
        Says.says("`int when(int use)`: WHEN; -2: none; NONE: no such USE.");
        FuseTreaty x = Says.with(Says.PAIR + "use v a 1 3 9;");
        Says.eq("none, for an hour beside the other", x.when(1), NOT_SO);
        x.agree(0, false);
        Says.eq("at 0", x.when(1), 0);
        for (int u : NO_FIVE) refused("when(" + u + ")", y -> y.when(u), NONE);
    }

    private static void thick() {
        Says.says("`int thick(int k)`: THICK; -2: none; NONE: no such k.");
        FuseTreaty x = Says.with("flat m 0; flat a 0; flat b 0; wire m b 9; wire m a 5; use u a 19 0 0; use v a 6 0 0;");
        for (int k = 1; k < 20; k++) Says.eq("thick(" + k + ")", x.thick(k), NOT_SO);
        Says.eq("thick(20)", x.thick(20), 1);
        for (int k : new int[] {0, -1, 21, 22, 99, Says.MAX, Says.MIN}) {
            Says.eq("thick(" + k + ")", x.thick(k), NONE);
            refused("thick(" + k + ")", y -> y.thick(k), NONE);
        }
        Says.eq("no wires", new FuseTreaty().thick(1), NOT_SO);
        Says.eq("no wires", new FuseTreaty().thick(21), NONE);
    }

    private static void cut() {
        Says.says("`int cut(int flat, int i)`: CUT: how many (i NONE), else the i-th WIRE; -2: not by three (i NONE or not);"
            + " NONE: no such ones (i 0 .. 2), not so many.");
        FuseTreaty x = Says.with(Says.SQUARE);
        Says.eq("how many", x.cut(2, NONE), 2);
        Says.eq("the first", x.cut(2, 0), 0);
        Says.eq("the second", x.cut(2, 1), 2);
        Says.eq("not so many", x.cut(2, 2), NONE);
        Says.eq("no such i", x.cut(2, 3), NONE);
        Says.eq("no such i", x.cut(2, -2), NONE);
        for (int i = -1; i < 3; i++) Says.eq("not by three: cut(0, " + i + ")", x.cut(0, i), NOT_SO);
        for (int i : new int[] {3, -2, 32, Says.MAX, Says.MIN}) Says.eq("no such i: cut(0, " + i + ")", x.cut(0, i), NONE);
        for (int f : NO_FIVE) for (int i = -1; i < 3; i++) Says.eq("cut(" + f + ", " + i + ")", x.cut(f, i), NONE);
        FuseTreaty dark = busy();
        Says.eq("not lit: none", dark.cut(4, NONE), 0);
        for (int i = 0; i < 3; i++) Says.eq("not lit: not so many", dark.cut(4, i), NONE);
        refused("cut(0, 3)", y -> y.cut(0, 3), NONE);
        refused("cut(5, NONE)", y -> y.cut(5, NONE), NONE);
    }

    private static void share() {
        Says.says("`int share(int flat, int wire)`: SHARE; NONE: no such ones.");
        FuseTreaty x = Says.with(Says.SQUARE, 4);
        Says.eq("share(2, 0)", x.share(2, 0), 7);
        Says.eq("share(4, 4)", x.share(4, 4), 1);
        Says.eq("share(0, 0)", x.share(0, 0), 0);
        for (int n : NO_FIVE) {
            Says.eq("share(" + n + ", 0)", x.share(n, 0), NONE);
            Says.eq("share(0, " + n + ")", x.share(0, n), NONE);
        }
        refused("share(5, 4)", y -> y.share(5, 4), NONE);
        refused("share(4, 5)", y -> y.share(4, 5), NONE);
    }

    private static void without() {
        Says.says("`int without(int wire)`: WITHOUT (bits); NONE: no such WIRE.");
        FuseTreaty x = Says.with(Says.SQUARE);
        Says.eq("without(0)", x.without(0), 0);
        Says.eq("without(4)", x.without(4), 16);
        for (int w : NO_FIVE) refused("without(" + w + ")", y -> y.without(w), NONE);
        Says.eq("no wires", new FuseTreaty().without(0), NONE);
    }

    private static void needed() {
        Says.says("`int needed()`: NEEDED (bits).");
        Says.eq("of the square", Says.with(Says.SQUARE).needed(), 16);
        Says.eq("of what is left of it", busy().needed(), 4);
        FuseTreaty star = Says.with("flat a 0;flat b 0;flat c 0;flat d 0;flat e 0;flat f 0;flat g 0;wire a b 1;wire a c 1;wire a d 1;wire a e 1;"
            + "wire a f 1;wire a g 1;");
        Says.eq("all six", star.needed(), 63);
        Says.eq("none", new FuseTreaty().needed(), 0);
    }

    private static void hottest() {
        Says.says("`int hottest(int what)`: HOTTEST: what 0 which, 1 by how much (may be below 0); -2000: no whole WIRES; -1000 for others.");
        FuseTreaty x = Says.with(Says.SQUARE);
        Says.eq("which", x.hottest(0), 3);
        Says.eq("below 0", x.hottest(1), -4);
        for (FuseTreaty none : new FuseTreaty[] {new FuseTreaty(), Says.with(Says.PAIR + "goes = 1;", 1)}) {
            Says.eq("no whole one", none.hottest(0), -2000);
            Says.eq("no whole one", none.hottest(1), -2000);
            for (int what : new int[] {-1, 2, Says.MAX, Says.MIN}) Says.eq("hottest(" + what + ")", none.hottest(what), -1000);
        }
        for (int what : new int[] {-1, 2, Says.MAX, Says.MIN}) refused("hottest(" + what + ")", y -> y.hottest(what), -1000);
    }

    private static void clash() {
        Says.says("`int clash(int use, int other)`: CLASH; NONE: no such ones, one and the same.");
        FuseTreaty x = Says.with(Says.SQUARE);
        Says.eq("lamp and cook", x.clash(1, 2), 1);
        Says.eq("iron and bell", x.clash(0, 4), 0);
        for (int u = 0; u < 5; u++) Says.eq("one and the same", x.clash(u, u), NONE);
        for (int n : NO_FIVE) {
            Says.eq("clash(" + n + ", 0)", x.clash(n, 0), NONE);
            Says.eq("clash(0, " + n + ")", x.clash(0, n), NONE);
            Says.eq("clash(" + n + ", " + n + ")", x.clash(n, n), NONE);
        }
        refused("clash(5, 4)", y -> y.clash(5, 4), NONE);
        refused("clash(4, 5)", y -> y.clash(4, 5), NONE);
        refused("clash(4, 4)", y -> y.clash(4, 4), NONE);
    }

    private static void then() {
        Says.says("`int then(int n, int what)`: IN n HOURS: what 0 COINS more, 1 QUARRELS more, 2 how many WIRES are GONE; NONE: no such ones.");
        FuseTreaty x = Says.with(Says.SQUARE + "quarrel = temper;");
        for (int what = 0; what < 3; what++) Says.eq("then(0, " + what + ")", x.then(0, what), 0);
        Says.eq("coins more", x.then(5, 0), 42);
        Says.eq("quarrels more", x.then(7, 1), 20);
        Says.eq("gone", x.then(5, 2), 2);
        Says.eq("gone", x.then(72, 2), 3);
        Says.eq("gone already", busy().then(0, 2), 3);
        for (int n : new int[] {-1, 73, 74, Says.MAX, Says.MIN}) for (int what = 0; what < 3; what++) Says.eq("then(" + n + ", " + what + ")", x.then(n, what), NONE);
        for (int what : new int[] {-1, 3, 4, Says.MAX, Says.MIN}) Says.eq("then(1, " + what + ")", x.then(1, what), NONE);
        refused("then(73, 0)", y -> y.then(73, 0), NONE);
        refused("then(72, 3)", y -> y.then(72, 3), NONE);
    }

    private static void litIn() {
        Says.says("`int litIn(int flat, int n)`: IN n HOURS whether a FLAT is LIT: 1, 0; NONE: no such ones.");
        FuseTreaty x = Says.with(Says.SQUARE);
        Says.eq("litIn(1, 4)", x.litIn(1, 4), 1);
        Says.eq("litIn(1, 5)", x.litIn(1, 5), 0);
        Says.eq("litIn(4, 5)", x.litIn(4, 5), 1);
        Says.eq("litIn(4, 6)", x.litIn(4, 6), 0);
        Says.eq("litIn(0, 72)", x.litIn(0, 72), 1);
        Says.eq("litIn(4, 72)", x.litIn(4, 72), 0);
        Says.eq("litIn(4, 0)", x.litIn(4, 0), 1);
        Says.eq("litIn(4, 0) in the dark", busy().litIn(4, 0), 0);
        for (int n : new int[] {-1, 73, Says.MAX, Says.MIN}) Says.eq("litIn(0, " + n + ")", x.litIn(0, n), NONE);
        for (int f : NO_FIVE) Says.eq("litIn(" + f + ", 0)", x.litIn(f, 0), NONE);
        refused("litIn(0, 73)", y -> y.litIn(0, 73), NONE);
        refused("litIn(5, 72)", y -> y.litIn(5, 72), NONE);
    }

    private static void year() {
        Says.says("`int year(int n, int s)`: YEAR; NONE: no such ones.");
        FuseTreaty x = Says.with(Says.SQUARE);
        Says.eq("year(4, 20)", x.year(4, 20), 20);
        Says.eq("year(5, 20)", x.year(5, 20), 0);
        Says.eq("year(0, 1)", x.year(0, 1), 1);
        Says.eq("year(72, 20)", x.year(72, 20), 0);
        Says.eq("no wires", new FuseTreaty().year(72, 20), 20);
        for (int n : new int[] {-1, 73, Says.MAX, Says.MIN}) Says.eq("year(" + n + ", 1)", x.year(n, 1), NONE);
        for (int s : new int[] {-1, 0, 21, Says.MAX, Says.MIN}) Says.eq("year(0, " + s + ")", x.year(0, s), NONE);
        refused("year(73, 20)", y -> y.year(73, 20), NONE);
        refused("year(72, 21)", y -> y.year(72, 21), NONE);
    }

    private static void tell() {
        Says.says("`int tell(int flat, boolean lit)`: It is TOLD: its number; NONE, and nothing happens: 20 are there, no such FLAT.");
        FuseTreaty x = busy();
        for (int i = 2; i < 20; i++) Says.eq("tell", x.tell(i % 5, true), i);
        Says.eq("a 21st", x.tell(0, true), NONE);
        Says.eq("20 are there", x.count(11), 20);
        Says.refused(() -> {
            FuseTreaty full = busy();
            for (int i = 2; i < 20; i++) full.tell(0, true);
            return full;
        }, "tell(0, false) as 20 are there", y -> y.tell(0, false), NONE);
        for (int f : NO_FIVE) {
            refused("tell(" + f + ", true)", y -> y.tell(f, true), NONE);
            refused("tell(" + f + ", false)", y -> y.tell(f, false), NONE);
        }
    }

    private static void forget() {
        Says.says("`int forget()`: All that was TOLD is forgotten: how many there were.");
        FuseTreaty x = busy();
        Says.eq("two", x.forget(), 2);
        Says.eq("none", x.forget(), 0);
        Says.eq("count(11)", x.count(11), 0);
        Says.eq("went(1, 0)", x.went(1, 0), NONE);
        for (int i = 0; i < 20; i++) Says.eq("from 0 on", x.tell(0, true), i);
        Says.eq("twenty", x.forget(), 20);
        Says.eq("it is no thing done", x.count(10), 5);
        Says.eq("on a new object", new FuseTreaty().forget(), 0);
    }

    private static void went() {
        Says.says("`int went(int k, int what)`: WENT, as KNOWN by k: what 0 how many, 1 which (bits); NONE: no such ones.");
        FuseTreaty x = Says.with(Says.SQUARE);
        x.tell(4, false);
        Says.eq("how many", x.went(0, 0), 5);
        Says.eq("which", x.went(0, 1), 31);
        Says.eq("how many", x.went(1, 0), 1);
        Says.eq("which", x.went(1, 1), 16);
        for (int k : new int[] {-1, 2, 20, 21, Says.MAX, Says.MIN}) for (int what = 0; what < 2; what++) Says.eq("went(" + k + ", " + what + ")", x.went(k, what), NONE);
        for (int what : new int[] {-1, 2, Says.MAX, Says.MIN}) Says.eq("went(0, " + what + ")", x.went(0, what), NONE);
        refused("went(3, 0)", y -> y.went(3, 0), NONE);
        refused("went(2, 2)", y -> y.went(2, 2), NONE);
    }

    private static void ask() {
        Says.says("`int ask(int k)`: ASK, as KNOWN by k; -2: none is left; NONE: no such k.");
        FuseTreaty x = Says.with(Says.SQUARE);
        x.tell(4, false);
        x.tell(2, false);
        Says.eq("eve tells of one, the others of none", x.ask(0), 4);
        Says.eq("one is left", x.ask(1), 0);
        Says.eq("none is left", x.ask(2), NOT_SO);
        for (int k : new int[] {-1, 3, 20, 21, Says.MAX, Says.MIN}) Says.eq("ask(" + k + ")", x.ask(k), NONE);
        refused("ask(3)", y -> y.ask(3), NONE);
        refused("ask(-1)", y -> y.ask(-1), NONE);
        Says.eq("no such k, though none is left", new FuseTreaty().ask(1), NONE);
    }

    private static void hold() {
        Says.says("`boolean hold(int slot)`: All that goes on (not what is TOLD, nor the tape) is held in a SLOT (0 .. 2): true; false: no such one.");
        for (int slot = 0; slot < 3; slot++) {
            FuseTreaty x = busy();
            String seen = Says.all(x).replaceFirst("counts (\\S+ ){12}\\S+", "");
            Says.is("hold(" + slot + ")", x.hold(slot), true);
            Says.eq("slots", x.count(12), slot == 1 ? 1 : 2);
            Says.eq("no thing done", x.count(10), 5);
            x.undo();
            x.agree(0, false);
            x.mend(3);
            x.pin(3, true);
            x.hours(30);
            Says.is("restore(" + slot + ")", x.restore(slot), true);
            Says.alike("all that goes on", Says.all(x).replaceFirst("counts (\\S+ ){12}\\S+", ""), seen);
            x.forget();
            x.back(20);
            Says.is("restore(" + slot + ")", x.restore(slot), true);
            Says.eq("not what is told", x.count(11), 0);
            Says.eq("nor the tape", x.count(9), 0);
        }
        FuseTreaty over = busy();
        Says.is("over what a slot held", over.hold(1), true);
        over.hours(1);
        over.restore(1);
        Says.eq("the later one", over.count(3), 7);
        for (int slot : new int[] {-1, 3, 4, 31, 32, 33, Says.MAX, Says.MIN}) refused("hold(" + slot + ")", y -> Says.bit(y.hold(slot)), 0);
    }

    private static void restore() {
        Says.says("`boolean restore(int slot)`: It goes on from what a SLOT holds (that stays there; nothing can be undone then): true;"
            + " false, and nothing happens: no such one, nothing is held.");
        FuseTreaty x = busy();
        Says.is("restore(1)", x.restore(1), true);
        Says.eq("hour", x.count(3), 3);
        Says.eq("gone", x.count(6), 0);
        Says.eq("nothing can be undone", x.count(10), 0);
        Says.is("undo()", x.undo(), false);
        Says.eq("hour", x.count(3), 3);
        Says.eq("it stays there", x.count(12), 1);
        x.hours(2);
        Says.is("restore(1)", x.restore(1), true);
        Says.eq("hour", x.count(3), 3);
        x.hours(1);
        Says.is("what is done then can be undone", x.undo(), true);
        Says.is("no more than that", x.undo(), false);
        FuseTreaty three = busy();
        three.hold(0);
        three.hours(5);
        three.hold(2);
        Says.eq("slots", three.count(12), 3);
        int[] hours = {7, 3, 12};
        for (int slot = 0; slot < 3; slot++) {
            Says.is("restore(" + slot + ")", three.restore(slot), true);
            Says.eq("hour", three.count(3), hours[slot]);
        }
        for (int slot : new int[] {0, 2, -1, 3, 31, 32, 33, Says.MAX, Says.MIN}) refused("restore(" + slot + ")", y -> Says.bit(y.restore(slot)), 0);
    }

    private static void count() {
        Says.says("`int count(int what)`: 0 FLATS, 1 WIRES, 2 USES, 3 the hour, counted on, 4 COINS, 5 QUARRELS so far, 6 WIRES GONE (bits), 7 LIT FLATS (bits),"
            + " 8 USES ON now (bits), 9 bytes on the tape, 10 things that can be undone, 11 TOLD ones, 12 SLOTS that hold something,"
            + " 13: 1 a SURGE in this hour, else 0, 14 PINNED WIRES (bits), 15 RATINGS of all whole WIRES. NONE for others.");
        FuseTreaty x = busy();
        int paid = 5 * 5 + 3 * 4 + 4 * 2 + 1 * 5;
        int[] due = {5, 5, 5, 7, 50 + paid - 15, 3 + 4 + 5 + 9, 11, 9, 0, 20, 5, 2, 1, 0, 4, 14};
        for (int i = 0; i < 16; i++) Says.eq("count(" + i + ")", x.count(i), due[i]);
        for (int what : new int[] {-1, 16, 17, 32, Says.MAX, Says.MIN}) refused("count(" + what + ")", y -> y.count(what), NONE);
        Says.eq("a surge", Says.with("surge 100 0;").count(13), 1);
        StringBuilder most = new StringBuilder("flat a 0;flat b 0;flat c 0;flat d 0;flat e 0;flat f 0;flat g 0;");
        for (String w : "a b,a c,a d,a e,a f,a g,b c,b d,b e,b f".split(",")) most.append("wire ").append(w).append(" 99;");
        for (char c = 'p'; c < 'x'; c++) most.append("use ").append(c).append(" g 1 0 23;");
        FuseTreaty full = Says.with(most.toString());
        int[] all = {7, 10, 8, 0, 100, 0, 0, 127, 255, 0, 0, 0, 0, 0, 0, 990};
        for (int i = 0; i < 16; i++) Says.eq("all there can be: count(" + i + ")", full.count(i), all[i]);
        for (int w = 0; w < 10; w++) full.pin(w, true);
        Says.eq("all pinned", full.count(14), 1023);
    }
}
