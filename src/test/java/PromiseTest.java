/** Each promise of the document by itself: ordinary calls, the edges that it names, and wrong ones. */
public final class PromiseTest {
    private static final int NONE = FuseTreaty.NONE;
    private static int wrong = 0;
    private static int promise = 0;

    /** A square of four flats and one more behind it: main - ann - bob - cid - main, bob - eve. */
    private static final String SQUARE = "flat main 2; flat ann 3; flat bob 5; flat cid 1; flat eve 9;"
        + "wire main ann 10; wire ann bob 6; wire main cid 8; wire cid bob 4; wire bob eve 5;"
        + "use iron ann 5 0 5; use lamp bob 3 2 8; use cook bob 4 4 6; use pram cid 7 20 23; use bell eve 1 1 23;";

    /** Two flats and one wire; a law or more may be put behind. */
    private static final String PAIR = "flat m 0; flat a 9; wire m a 5; use u a 5 0 23;";

    public static void main(String[] args) {
        newObject();
        feedBack();
        readSyntax();
        readRoom();
        readSense();
        readPutsInPlace();
        flats();
        wires();
        uses();
        laws();
        agree();
        mend();
        thicken();
        pin();
        hours();
        surges();
        limits();
        undo();
        way();
        peak();
        first();
        together();
        when();
        thick();
        cut();
        share();
        withoutNeeded();
        hottest();
        clash();
        then();
        year();
        told();
        slots();
        count();
        anyArguments();
        System.out.println(wrong == 0 ? "all promises hold" : wrong + " answers are not as promised");
        if (wrong != 0) System.exit(1);
    }

    private static void eq(String call, int got, int want) {
        if (got != want) {
            wrong++;
            System.out.println("promise " + promise + ": " + call + " answered " + got + ", due is " + want);
        }
    }

    private static void is(String call, boolean got, boolean want) {
        eq(call, got ? 1 : 0, want ? 1 : 0);
    }

    private static FuseTreaty with(String text) {
        FuseTreaty x = new FuseTreaty();
        eq("read of " + text, Texts.read(x, text), 0);
        return x;
    }

    private static void fault(String text, int number, int place) {
        FuseTreaty x = with(PAIR);
        x.hours(2);
        eq("read of " + text, Texts.read(x, text), number);
        eq("place in " + text, x.place(), place);
        eq("tape behind " + text, x.count(9), 0);
        eq("hour behind " + text, x.count(3), number == 0 ? 0 : 2);
        eq("undone behind " + text, x.count(10), number == 0 ? 0 : 1);
    }

    private static void newObject() {
        promise = 1;
        FuseTreaty x = new FuseTreaty();
        int[] due = {0, 0, 0, 0, 100, 0, 0, 0, 0, 0, 0, 0, 0, 0, 0, 0};
        for (int i = 0; i < due.length; i++) eq("count(" + i + ")", x.count(i), due[i]);
        eq("place()", x.place(), NONE);
        is("hold(2)", x.hold(2), true);
        eq("hours(5)", x.hours(5), 5);
        is("restore(2)", x.restore(2), true);
        eq("count(3)", x.count(3), 0);
        eq("year(72, 20)", x.year(72, 20), 20);
        eq("NONE", FuseTreaty.NONE, -1);
    }

    private static void feedBack() {
        promise = 2;
        FuseTreaty x = new FuseTreaty();
        for (int i = 1; i <= 100; i++) eq("feed", x.feed(0x20202020, 0x20202020, 0x20202020, 0x20202020, 0x20202020), 20 * i);
        eq("feed of too much", x.feed(0, 0, 0, 0, 0), NONE);
        eq("count(9)", x.count(9), 2000);
        eq("back(1)", x.back(1), 1999);
        eq("feed of too much", x.feed(0, 0, 0, 0, 0), NONE);
        eq("back(18)", x.back(18), 1981);
        eq("feed of too much", x.feed(0, 0, 0, 0, 0), NONE);
        eq("back(1)", x.back(1), 1980);
        eq("feed", x.feed(0x20202020, 0x20202020, 0x20202020, 0x20202020, 0x20202020), 2000);
        eq("read() of blanks", x.read(), 0);
        eq("count(9)", x.count(9), 0);
        x.feed(0x20202020, 0x20202020, 0x20202020, 0x20202020, 0x202020FF);
        eq("read()", x.read(), 1);
        eq("the lowest byte of e is last", x.place(), 19);
        x.feed(0x2020FF20, 0x20202020, 0x20202020, 0x20202020, 0x202020FF);
        eq("read()", x.read(), 1);
        eq("the highest byte of a is first", x.place(), 2);
        promise = 3;
        eq("back(0)", x.back(0), 0);
        eq("back(1)", x.back(1), NONE);
        x.feed(0, 0, 0, 0, 0);
        eq("back(-1)", x.back(-1), NONE);
        eq("back(21)", x.back(21), NONE);
        eq("back(MIN)", x.back(Integer.MIN_VALUE), NONE);
        eq("back(MAX)", x.back(Integer.MAX_VALUE), NONE);
        eq("back(7)", x.back(7), 13);
        eq("back(13)", x.back(13), 0);
    }

    private static void readSyntax() {
        promise = 4;
        fault("", 0, NONE);
        fault(" \t\r\n", 0, NONE);
        fault("flat", 1, 4);
        fault("flat  ", 1, 6);
        fault("flat a 1", 1, 8);
        fault("flat a1;flat b2;wire a b3;", 0, NONE);
        fault("flat a 1;;", 1, 9);
        fault("a", 1, 0);
        fault("  A", 1, 2);
        fault("flat 1 1;", 1, 5);
        fault("flat load 1;", 1, 5);
        fault("flat flat 1;", 1, 5);
        fault("flat abcdefgh 1;", 0, NONE);
        fault("flat abcdefghi 1;", 1, 5);
        fault("flat a 0009;", 0, NONE);
        fault("flat a 00009;", 1, 7);
        fault("flat a 1 2;", 1, 9);
        fault("flata 1;", 1, 0);
        fault("flat a -1;", 1, 7);
        fault("flat a 1,", 1, 8);
        fault("flat a\f1;", 1, 6);
        fault("goes = ;", 1, 7);
        fault("goes = - 1;", 1, 7);
        fault("goes = 1 + ;", 1, 11);
        fault("goes = (1;", 1, 9);
        fault("goes = 1);", 1, 8);
        fault("goes = 1 < 2;", 1, 9);
        fault("goes = if 1 then 2 else 3;", 1, 12);
        fault("goes = if 1 < 2 < 3 then 2 else 3;", 1, 16);
        fault("goes = if (1 < 2) then 2 else 3;", 1, 13);
        fault("goes = if 1 < 2 then 3;", 1, 22);
        fault("goes = if 1 < 2 then if 1 < 2 then 3 else 4 else 5;", 1, 21);
        fault("goes = (if 1 < 2 then 3 else 4);", 1, 8);
        fault("goes = if 1 < 2 then 3 else if 2 < 1 then 4 else 5;", 0, NONE);
        fault("goes 1;", 1, 5);
        fault("goes = a;", 1, 7);
        fault("goes = temper * dark / 0 - amps;", 0, NONE);
        fault("surge 1;", 1, 7);
        fault("use u a 1 2;", 1, 11);
        fault("flat a 1; \u0080", 1, 10);
        fault("flat a 1; \u00e1", 1, 10);
    }

    private static void readRoom() {
        promise = 4;
        String seven = "flat a 0;flat b 0;flat c 0;flat d 0;flat e 0;flat f 0;flat g 0;";
        fault(seven, 0, NONE);
        fault(seven + "flat", 2, seven.length());
        fault(seven + "flat a 99;", 2, seven.length());
        fault("flat a 10;" + seven, 2, seven.length() + 1);
        String ten = seven + "wire a b 1;wire a c 1;wire a d 1;wire a e 1;wire a f 1;wire a g 1;wire b c 1;wire b d 1;wire b e 1;wire b f 1;";
        fault(ten, 0, NONE);
        fault(ten + " wire b g 1;", 2, ten.length() + 1);
        String eight = "flat a 0;";
        for (char c = 'p'; c < 'x'; c++) eight += "use " + c + " a 1 0 0;";
        fault(eight, 0, NONE);
        fault(eight + "use x a 1 0 0;", 2, eight.length());
        String four = "goes = ";
        for (int i = 0; i < 4; i++) four += "if 1 < 2 then 3 else ";
        fault(four + "4;" + four.replace("goes", "pays") + "4;", 0, NONE);
        fault(four + "if 1 < 2 then 3 else 4;", 2, four.length());
        fault(four + "if", 2, four.length());
        fault("goes = ((((((1))))));", 0, NONE);
        fault("goes = ((((((1)))))) + ((((((1))))));", 0, NONE);
        fault("goes = (((((((1)))))));", 2, 13);
        fault("goes = (((((1 + (1 + (1", 2, 21);
        fault("goes = ((((((1(", 1, 14);
        String almost = "";
        for (int i = 0; i < 133; i++) almost += "seed 1;";
        fault(almost, 0, NONE);
        fault(almost + " seed", 1, 936);
        fault(almost + " seed 1;", 2, 937);
        fault(almost + " seed seed", 1, 937);
        fault(almost + " seed 10000;", 1, 937);
        fault(almost + "seed;", 1, 935);
        String exact = "goes = 1";
        for (int i = 0; i < 198; i++) exact += "+1";
        fault(exact + ";", 0, NONE);
        fault(exact + "+1;", 2, exact.length() + 1);
        fault(exact + ";seed 1;", 2, exact.length() + 1);
        fault(exact + "; 1", 1, exact.length() + 2);
        fault(exact + "; ?", 1, exact.length() + 2);
    }

    private static void readSense() {
        promise = 4;
        fault("flat a 0;flat a 0;", 3, 14);
        fault("flat a 9;flat a 10;", 3, 14);
        fault("flat a 10;flat a 0;", 5, 7);
        fault("flat a 0;use a a 1 0 0;", 3, 13);
        fault("flat a 0;use b a 1 0 0;use b a 1 0 0;", 3, 27);
        fault("flat a 0;use b a 1 0 0;flat b 0;", 3, 28);
        fault("flat a 0;use b b 1 0 0;", 4, 15);
        fault("flat a 0;use b a 1 0 0;wire a b 1;", 4, 30);
        fault("flat a 0;wire a a 1;", 3, 16);
        fault("flat a 0;flat b 0;wire a b 1;wire a b 2;", 3, 36);
        fault("flat a 0;flat b 0;wire a b 1;wire b a 2;", 3, 36);
        fault("flat a 0;wire a b 1;flat b 0;", 4, 16);
        fault("flat a 0;wire b a 1;flat b 0;", 4, 14);
        fault("flat a 0;wire b b 1;flat b 0;", 4, 14);
        fault("flat a 10;", 5, 7);
        fault("flat a 0;flat b 0;wire a b 0;", 5, 27);
        fault("flat a 0;flat b 0;wire a b 100;", 5, 27);
        fault("flat a 0;flat b 0;wire a b 99;", 0, NONE);
        fault("flat a 0;use b a 0 0 0;", 5, 17);
        fault("flat a 0;use b a 20 0 0;", 5, 17);
        fault("flat a 0;use b a 19 24 23;", 5, 20);
        fault("flat a 0;use b a 19 23 24;", 5, 23);
        fault("flat a 0;use b a 19 23 22;", 5, 23);
        fault("flat a 0;use b a 19 23 23;", 0, NONE);
        fault("surge 100 19;coins 999;seed 9999;", 0, NONE);
        fault("surge 101 0;", 5, 6);
        fault("surge 0 20;", 5, 8);
        fault("coins 1000;", 5, 6);
        fault("goes = 9999;coins 1000;", 5, 18);
        fault("coins 1000; ?", 1, 12);
        promise = 5;
        FuseTreaty x = new FuseTreaty();
        Texts.read(x, "?");
        eq("place()", x.place(), 0);
        eq("place()", x.place(), 0);
        Texts.read(x, "");
        eq("place()", x.place(), NONE);
    }

    private static void readPutsInPlace() {
        promise = 4;
        FuseTreaty x = with("flat m 1; flat a 2; wire m a 3; use u a 4 0 23; goes = 1; quarrel = 7; costs = 50; pays = 9;"
            + "surge 100 5; coins 30; seed 4;");
        x.hours(30);
        x.pin(0, true);
        x.agree(0, false);
        x.tell(0, true);
        x.hold(0);
        eq("a text that is wrong", Texts.read(x, "flat m 1; flat m 2;"), 3);
        eq("hour", x.count(3), 30);
        eq("undone", x.count(10), 2);
        eq("told", x.count(11), 1);
        eq("held", x.count(12), 1);
        eq("the next text", Texts.read(x, "flat m 1; flat a 2; wire m a 3; use u a 3 0 23;"), 0);
        int[] due = {2, 1, 1, 0, 100, 0, 0, 3, 1, 0, 0, 0, 0, 0, 0, 3};
        for (int i = 0; i < due.length; i++) eq("count(" + i + ")", x.count(i), due[i]);
        eq("age", x.wire(0, 4), 0);
        eq("dark", x.flat(1, 2), 0);
        eq("GOES as if not told", x.wire(0, 8), 0);
        eq("QUARREL as if not told", x.flat(1, 4), 0);
        eq("COSTS as if not told", x.wire(0, 7), 3);
        eq("PAYS as if not told", x.use(0, 6), 3);
        is("restore(0)", x.restore(0), false);
        is("undo()", x.undo(), false);
        eq("the last of each counts", Texts.read(x, "flat m 1; flat a 2; wire m a 3; use u a 4 0 23; coins 1; coins 2;"
            + "pays = 1; pays = if 1 < 2 then 8 else 9; surge 100 1; surge 0 0;"), 0);
        eq("coins", x.count(4), 2);
        eq("pays", x.use(0, 6), 8);
        eq("surge", x.count(13), 0);
    }

    private static void flats() {
        promise = 6;
        FuseTreaty x = with(SQUARE + "quarrel = temper * 10 + dark * 2 + which;");
        eq("flat(4, 0)", x.flat(4, 0), 9);
        eq("flat(4, 1)", x.flat(4, 1), 1);
        eq("flat(4, 3)", x.flat(4, 3), 3);
        eq("flat(0, 3)", x.flat(0, 3), 0);
        eq("flat(2, 4)", x.flat(2, 4), 52);
        eq("flat(4, 4)", x.flat(4, 4), 94);
        eq("flat(1, 5)", x.flat(1, 5), 5);
        eq("flat(2, 5)", x.flat(2, 5), 0);
        x.hours(4);
        eq("flat(2, 5)", x.flat(2, 5), 7);
        x.hours(3);
        eq("what is gone", x.count(6), 11);
        eq("flat(2, 1)", x.flat(2, 1), 0);
        eq("flat(2, 3)", x.flat(2, 3), -2);
        eq("flat(2, 5)", x.flat(2, 5), 0);
        eq("flat(2, 2)", x.flat(2, 2), 1);
        x.hours(3);
        eq("flat(2, 2)", x.flat(2, 2), 4);
        eq("flat(4, 4) is held to 99", x.flat(4, 4), 99);
        eq("flat(3, 2)", x.flat(3, 2), 0);
        x.mend(3);
        eq("flat(2, 1) once mended", x.flat(2, 1), 1);
        eq("flat(2, 2) until the hour is over", x.flat(2, 2), 4);
        x.hours(1);
        eq("flat(2, 2)", x.flat(2, 2), 0);
        for (int what : new int[] {-1, 6, Integer.MAX_VALUE, Integer.MIN_VALUE}) eq("flat(0, " + what + ")", x.flat(0, what), NONE);
        for (int f : new int[] {-1, 5, Integer.MAX_VALUE, Integer.MIN_VALUE}) eq("flat(" + f + ", 0)", x.flat(f, 0), NONE);
        FuseTreaty y = with("flat m 3; flat a 2; quarrel = 0 - 5;");
        eq("a flat without a wire", y.flat(1, 1), 0);
        eq("flat 0 without a wire", y.flat(0, 1), 1);
        eq("held to 0", y.flat(1, 4), 0);
    }

    private static void wires() {
        promise = 7;
        FuseTreaty x = with(SQUARE + "costs = rating * 3 + age + which;");
        int[] due = {1, 2, 6, 1, 0, 0, 0, 19, 0};
        for (int i = 0; i < due.length; i++) eq("wire(1, " + i + ")", x.wire(1, i), due[i]);
        x.hours(4);
        int[] later = {1, 2, 6, 1, 4, 0, 8, 23, 1};
        for (int i = 0; i < later.length; i++) eq("wire(1, " + i + ")", x.wire(1, i), later[i]);
        x.pin(1, true);
        eq("wire(1, 5)", x.wire(1, 5), 1);
        eq("wire(1, 8)", x.wire(1, 8), 0);
        x.pin(1, false);
        x.hours(2);
        int[] gone = {1, 2, 6, 0, 4, 0, 0, 23, 0};
        for (int i = 0; i < gone.length; i++) eq("wire(1, " + i + ")", x.wire(1, i), gone[i]);
        for (int what : new int[] {-1, 9, Integer.MAX_VALUE, Integer.MIN_VALUE}) eq("wire(0, " + what + ")", x.wire(0, what), NONE);
        for (int w : new int[] {-1, 5, Integer.MAX_VALUE, Integer.MIN_VALUE}) eq("wire(" + w + ", 0)", x.wire(w, 0), NONE);
        FuseTreaty y = with("flat m 0; flat a 0; wire a m 99; costs = rating * rating;");
        eq("held to 99", y.wire(0, 7), 99);
        eq("the one told first is first", y.wire(0, 0), 1);
        eq("the other one", y.wire(0, 1), 0);
        eq("surge is not told of", with(PAIR + "surge 100 19;").wire(0, 8), 0);
        eq("nothing in it, so it stays", with("flat m 0; flat a 0; wire m a 1; goes = 1;").wire(0, 8), 0);
    }

    private static void uses() {
        promise = 8;
        FuseTreaty x = with(SQUARE + "pays = amps * 2 + which;");
        int[] due = {2, 3, 2, 8, 1, 0, 0};
        for (int i = 0; i < due.length; i++) eq("use(1, " + i + ")", x.use(1, i), due[i]);
        x.hours(1);
        eq("use(1, 5) an hour ahead", x.use(1, 5), 0);
        x.hours(1);
        eq("use(1, 5)", x.use(1, 5), 1);
        eq("use(1, 6)", x.use(1, 6), 7);
        x.agree(1, false);
        eq("use(1, 4)", x.use(1, 4), 0);
        eq("use(1, 5)", x.use(1, 5), 0);
        for (int what : new int[] {-1, 7, Integer.MAX_VALUE, Integer.MIN_VALUE}) eq("use(0, " + what + ")", x.use(0, what), NONE);
        for (int u : new int[] {-1, 5, Integer.MAX_VALUE, Integer.MIN_VALUE}) eq("use(" + u + ", 0)", x.use(u, 0), NONE);
        FuseTreaty y = with("flat m 0; flat a 0; use u m 7 0 0; use v a 7 0 23; pays = 100 * amps;");
        eq("a use of flat 0", y.use(0, 5), 1);
        eq("held to 99", y.use(0, 6), 99);
        eq("a use in the dark", y.use(1, 5), 0);
        y.hours(1);
        eq("its hour is over", y.use(0, 5), 0);
        y.hours(23);
        eq("it is its hour again", y.use(0, 5), 1);
    }

    /** What a law of a use's pay tells, in hour 30 (the 6th of day 1), with 5 amps and which 0. */
    private static void pay(String law, int want) {
        FuseTreaty x = with("flat m 0; use u m 5 0 23; pays = " + law + ";");
        x.hours(30);
        eq("pays = " + law, x.use(0, 6), want);
    }

    private static void laws() {
        promise = 8;
        pay("1 + 2 * 3", 7);
        pay("(1 + 2) * 3", 9);
        pay("20 - 5 - 3", 12);
        pay("64 / 4 / 2", 8);
        pay("7 / 2 * 2", 6);
        pay("20 - (0 - 7) / 2 * (0 - 1)", 17);
        pay("10 + 7 / (0 - 2)", 7);
        pay("hour", 6);
        pay("day", 1);
        pay("amps", 5);
        pay("which + 3", 3);
        pay("load + rating + age + temper + dark + 3", 3);
        pay("5 / 0", 0);
        pay("50 + 5 / which", 0);
        pay("50 + 0 * (5 / which)", 0);
        pay("if 1 < 2 then 50 else 1 / 0", 50);
        pay("if 2 < 1 then 1 / 0 else 50", 50);
        pay("if 1 / 0 < 2 then 50 else 50", 0);
        pay("if 1 < 2 / 0 then 50 else 50", 0);
        pay("if 2 < 1 then 50 else 1 / 0", 0);
        pay("if 1 < 2 then 1 / 0 else 50", 0);
        pay("if 1 < 2 then 50 else if 1 / 0 < 1 then 2 else 3", 50);
        pay("if 2 < 2 then 50 else 40", 40);
        pay("if 3 < 2 then 50 else if 2 < 3 then 30 else 40", 30);
        pay("if 3 < 2 then 1 else if 3 < 2 then 2 else if 3 < 2 then 3 else if 1 < 2 then 4 else 5", 4);
        pay("if 3 < 2 then 1 else if 3 < 2 then 2 else if 3 < 2 then 3 else if 3 < 2 then 4 else 5", 5);
        pay("9999 * 9999 * 9999", 0);
        pay("(9999 * 9999 * 43) / (9999 * 100)", 4);
        pay("if 9999 * 9999 * 22 < 0 then 8 else 9", 8);
        pay("if (0 - 8192 * 8192 * 32) / (0 - 1) < 0 then 8 else 9", 8);
        pay("((((((amps))))))*(1+(1+(1+(1+(1+(1))))))", 30);
        pay("1 - 2", 0);
        promise = 6;
        StringBuilder longest = new StringBuilder("flat m 0; quarrel = 1");
        for (int i = 0; i < 195; i++) longest.append("-1+0".charAt(i % 2 * 2)).append("-1+0".charAt(i % 2 * 2 + 1));
        eq("the longest law", with(longest + "+90;").flat(0, 4), 0);
        eq("the longest law", with(longest + "+99;").flat(0, 4), 2);
        promise = 7;
        FuseTreaty x = with("flat m 0; flat a 0; wire m a 5; use u a 4 0 23; goes = if age < 3 then 0 else which + 1;");
        x.hours(3);
        eq("goes by its age", x.wire(0, 8), 1);
        FuseTreaty y = with(PAIR + "goes = load - rating;");
        eq("load is not more", y.wire(0, 8), 0);
        FuseTreaty z = with(PAIR + "goes = (load + 1) - rating - temper - amps - dark;");
        eq("load is more", z.wire(0, 8), 1);
    }

    private static void agree() {
        promise = 9;
        FuseTreaty x = with(SQUARE);
        is("agree(0, true)", x.agree(0, true), false);
        is("agree(0, false)", x.agree(0, false), true);
        is("agree(0, false)", x.agree(0, false), false);
        eq("use(0, 4)", x.use(0, 4), 0);
        eq("count(8)", x.count(8), 0);
        eq("wire(0, 6)", x.wire(0, 6), 0);
        is("agree(0, true)", x.agree(0, true), true);
        eq("count(8)", x.count(8), 1);
        is("agree(5, false)", x.agree(5, false), false);
        is("agree(-1, false)", x.agree(-1, false), false);
        is("agree(32, false)", x.agree(32, false), false);
        eq("count(10)", x.count(10), 2);
    }

    private static void mend() {
        promise = 10;
        FuseTreaty x = with(PAIR + "goes = 1; costs = age + 7; coins 19; pays = 0;");
        eq("mend of a whole one", x.mend(0), -2);
        x.hours(1);
        eq("gone", x.count(6), 1);
        eq("mend(0)", x.mend(0), 12);
        eq("gone", x.count(6), 0);
        x.hours(1);
        eq("mend(0)", x.mend(0), 5);
        x.hours(1);
        eq("not so many coins", x.mend(0), -2);
        eq("count(4)", x.count(4), 5);
        eq("count(6)", x.count(6), 1);
        for (int w : new int[] {-1, 1, Integer.MAX_VALUE, Integer.MIN_VALUE}) eq("mend(" + w + ")", x.mend(w), NONE);
        FuseTreaty y = with(PAIR + "goes = age - 3; costs = age; coins 3; pays = 0;");
        y.hours(5);
        eq("its age is that at which it went", y.wire(0, 4), 4);
        eq("so many coins are too few", y.mend(0), -2);
        FuseTreaty z = with(PAIR + "goes = age - 3; costs = age; coins 4; pays = 0;");
        z.hours(5);
        eq("just so many coins", z.mend(0), 0);
        eq("age then", z.wire(0, 4), 0);
        eq("pinned then", z.wire(0, 5), 0);
    }

    private static void thicken() {
        promise = 11;
        FuseTreaty x = with("flat m 0; flat a 0; wire m a 97; costs = rating - 90; coins 20; use u a 1 0 0; goes = hour; pays = 0;");
        eq("thicken(0)", x.thicken(0), 13);
        eq("wire(0, 2)", x.wire(0, 2), 98);
        eq("thicken(0)", x.thicken(0), 5);
        eq("wire(0, 2)", x.wire(0, 2), 99);
        eq("rating 99", x.thicken(0), -2);
        eq("count(4)", x.count(4), 5);
        FuseTreaty y = with(PAIR + "coins 10;");
        eq("thicken(0)", y.thicken(0), 5);
        eq("not so many coins", y.thicken(0), -2);
        eq("just so many coins", with(PAIR + "coins 5;").thicken(0), 0);
        FuseTreaty z = with(PAIR + "goes = 1;");
        z.hours(1);
        eq("it is gone", z.thicken(0), -2);
        z.mend(0);
        eq("age stays", z.thicken(0), 95);
        for (int w : new int[] {-1, 1, Integer.MAX_VALUE, Integer.MIN_VALUE}) eq("thicken(" + w + ")", x.thicken(w), NONE);
    }

    private static void pin() {
        promise = 12;
        FuseTreaty x = with(PAIR + "goes = 1;");
        is("pin(0, false)", x.pin(0, false), false);
        is("pin(0, true)", x.pin(0, true), true);
        is("pin(0, true)", x.pin(0, true), false);
        eq("count(14)", x.count(14), 1);
        x.hours(3);
        eq("a pinned one stays", x.count(6), 0);
        is("pin(0, false)", x.pin(0, false), true);
        x.hours(1);
        eq("it goes", x.count(6), 1);
        is("it is gone", x.pin(0, true), false);
        is("it is gone", x.pin(0, false), false);
        is("pin(1, true)", x.pin(1, true), false);
        is("pin(-1, true)", x.pin(-1, true), false);
        is("pin(32, true)", x.pin(32, true), false);
    }

    private static void hours() {
        promise = 13;
        FuseTreaty x = with(PAIR + "pays = 3; coins 0;");
        eq("hours(0)", x.hours(0), 0);
        eq("no thing done", x.count(10), 0);
        eq("hours(72)", x.hours(72), 72);
        eq("count(4)", x.count(4), 216);
        eq("wire(0, 4)", x.wire(0, 4), 72);
        eq("hours(0)", x.hours(0), 72);
        for (int n : new int[] {-1, 73, Integer.MAX_VALUE, Integer.MIN_VALUE}) eq("hours(" + n + ")", x.hours(n), NONE);
        eq("count(10)", x.count(10), 1);
        FuseTreaty y = with("flat m 0; flat a 4; flat b 5; wire m a 1; wire a b 1; use u b 2 0 23; quarrel = temper + dark; coins 0;");
        y.hours(1);
        eq("both go in one hour", y.count(6), 3);
        eq("it is paid by how it was", y.count(4), 2);
        eq("no quarrel by how it was", y.count(5), 0);
        y.hours(1);
        eq("4 and 5", y.count(5), 9);
        y.hours(2);
        eq("and 5, 6, and 6, 7", y.count(5), 33);
        eq("dark for 3 hours", y.flat(1, 2), 3);
        FuseTreaty z = with("flat m 5; flat a 4; quarrel = hour + day * 10; ");
        z.hours(26);
        eq("quarrels by the hour and the day", z.count(5), 276 + 10 + 11);
    }

    private static int lot(int n, int seed, int which) {
        int h = seed;
        h = (h ^ 129) * 1103515245 + 12345;
        h ^= h >>> 15;
        h = (h ^ which) * 1103515245 + 12345;
        h ^= h >>> 15;
        return (h >>> 1) % n;
    }

    private static void surges() {
        promise = 36;
        FuseTreaty x = with(PAIR + "surge 40 1; seed 77;");
        FuseTreaty y = with(PAIR + "surge 40 0; seed 77;");
        for (int hour = 0; hour < 60; hour++) {
            boolean surge = lot(100, 77, 4 * hour) < 40;
            eq("a surge of 0 amps in hour " + hour, y.count(13), surge ? 1 : 0);
            y.hours(1);
            eq("nothing goes by it", y.count(6), 0);
            eq("a surge in hour " + hour, x.count(13), surge ? 1 : 0);
            int gone = x.then(1, 2);
            eq("it goes by it", gone, surge ? 1 : 0);
            x.hours(1);
            eq("it went by it", x.count(6), gone);
            if (gone == 1) eq("mend(0)", x.mend(0), x.count(4));
        }
        promise = 13;
        FuseTreaty z = with("flat m 0; flat a 0; flat b 0; wire m a 5; wire m b 5; use u a 5 0 23; surge 100 19;");
        z.hours(1);
        eq("nothing in it: it stays in a surge", z.count(6), 1);
    }

    private static void limits() {
        promise = 13;
        FuseTreaty x = with("flat m 0; flat a 9; flat b 9; flat c 9; flat d 9; flat e 9; flat f 9; wire m a 9;"
            + "use u m 1 0 23; use v m 1 0 23; use w m 1 0 23; use x m 1 0 23; use y m 1 0 23; use z m 1 0 23; use q m 1 0 23;"
            + "quarrel = 9999; pays = 9999; costs = 1;");
        for (int i = 0; i < 3; i++) x.hours(72);
        eq("coins", x.count(4), 99999);
        eq("quarrels", x.count(5), 99 * 5 * 216);
        eq("then(1, 0)", x.then(1, 0), 0);
        for (int i = 0; i < 40; i++) x.hours(72);
        eq("quarrels", x.count(5), 999999);
        eq("then(72, 1)", x.then(72, 1), 0);
        eq("age", x.wire(0, 4), 999);
        eq("dark", x.flat(2, 2), 43 * 72);
        x.thicken(0);
        eq("coins", x.count(4), 99998);
        eq("then(1, 0)", x.then(1, 0), 1);
    }

    private static void undo() {
        promise = 14;
        FuseTreaty x = with(PAIR + "goes = hour - 3; costs = 2; quarrel = 1;");
        is("undo()", x.undo(), false);
        x.agree(0, false);
        x.pin(0, true);
        x.thicken(0);
        x.agree(0, true);
        x.pin(0, false);
        x.hours(7);
        eq("gone", x.count(6), 1);
        x.mend(0);
        eq("count(10)", x.count(10), 7);
        x.tell(1, true);
        is("undo()", x.undo(), true);
        eq("gone again", x.count(6), 1);
        eq("coins", x.count(4), 123);
        eq("dark", x.flat(1, 2), 2);
        eq("quarrels", x.count(5), 2);
        is("undo()", x.undo(), true);
        eq("hour", x.count(3), 0);
        eq("coins", x.count(4), 98);
        eq("age", x.wire(0, 4), 0);
        eq("dark", x.flat(1, 2), 0);
        is("undo()", x.undo(), true);
        eq("pinned", x.count(14), 1);
        is("undo()", x.undo(), true);
        eq("agreed", x.use(0, 4), 0);
        is("undo()", x.undo(), true);
        eq("rating", x.wire(0, 2), 5);
        eq("coins", x.count(4), 100);
        is("undo()", x.undo(), true);
        eq("pinned", x.count(14), 0);
        is("undo()", x.undo(), true);
        eq("agreed", x.use(0, 4), 1);
        is("undo()", x.undo(), false);
        eq("what is told stays", x.count(11), 1);
        for (int i = 1; i <= 41; i++) x.hours(1);
        eq("the last 40", x.count(10), 40);
        for (int i = 0; i < 40; i++) is("undo()", x.undo(), true);
        is("undo()", x.undo(), false);
        eq("the first one stays done", x.count(3), 1);
        x.hours(1);
        is("undo()", x.undo(), true);
        is("undo()", x.undo(), false);
    }

    private static void way() {
        promise = 15;
        FuseTreaty x = with("flat m 0; flat a 0; flat b 0; flat c 0; flat d 0;"
            + "wire c b 1; wire a m 1; wire c a 1; wire b m 1; wire d c 1;");
        eq("way(3, 0): of alike ones the lowest first", x.way(3, 0), 0);
        eq("way(3, 1)", x.way(3, 1), 3);
        eq("way(4, 0)", x.way(4, 0), 4);
        eq("way(4, 1)", x.way(4, 1), 0);
        eq("way(4, 2)", x.way(4, 2), 3);
        eq("way(4, 3)", x.way(4, 3), NONE);
        eq("way(0, 0)", x.way(0, 0), NONE);
        eq("way(1, -1)", x.way(1, -1), NONE);
        for (int f : new int[] {-1, 5, Integer.MAX_VALUE, Integer.MIN_VALUE}) eq("way(" + f + ", 0)", x.way(f, 0), NONE);
        eq("way(1, MAX)", x.way(1, Integer.MAX_VALUE), NONE);
        eq("way(1, MIN)", x.way(1, Integer.MIN_VALUE), NONE);
        FuseTreaty y = with("flat m 0; flat a 0;");
        eq("not lit", y.way(1, 0), -2);
        eq("not lit", y.way(1, 7), -2);
        FuseTreaty z = with("flat m 0; flat a 0; flat b 0; wire m a 1; wire a b 1; wire m b 1;");
        eq("fewest wires ahead of low ones", z.way(2, 0), 2);
    }

    private static void peak() {
        promise = 16;
        FuseTreaty x = with(SQUARE);
        eq("peak(0, 24, 0)", x.peak(0, 24, 0), 13);
        eq("peak(0, 24, 1)", x.peak(0, 24, 1), 4);
        eq("peak(0, 4, 0)", x.peak(0, 4, 0), 9);
        eq("peak(0, 4, 1)", x.peak(0, 4, 1), 2);
        eq("peak(0, 1, 0)", x.peak(0, 1, 0), 5);
        eq("peak(0, 1, 1)", x.peak(0, 1, 1), 0);
        eq("both of bob's ways go", x.peak(3, 48, 0), 8);
        eq("peak(3, 48, 1)", x.peak(3, 48, 1), 5);
        eq("peak(2, 48, 0)", x.peak(2, 48, 0), 8);
        FuseTreaty y = with(PAIR + "surge 100 9;");
        eq("no surges", y.peak(0, 48, 0), 5);
        FuseTreaty z = with("flat m 0; flat a 0; wire m a 5; use u a 5 2 3;");
        eq("nothing in it", z.peak(0, 2, 0), 0);
        eq("nothing in it", z.peak(0, 2, 1), 0);
        eq("the first hour of alike ones", z.peak(0, 48, 1), 2);
        z.hours(3);
        eq("this hour is the first", z.peak(0, 48, 1), 0);
        for (int n : new int[] {-1, 0, 49, Integer.MAX_VALUE, Integer.MIN_VALUE}) eq("peak(0, " + n + ", 0)", x.peak(0, n, 0), NONE);
        eq("peak(5, 1, 0)", x.peak(5, 1, 0), NONE);
        eq("peak(-1, 1, 0)", x.peak(-1, 1, 0), NONE);
        eq("peak(0, 1, 2)", x.peak(0, 1, 2), NONE);
        eq("peak(0, 1, -1)", x.peak(0, 1, -1), NONE);
        eq("nothing happens", x.count(3), 0);
    }

    private static void first() {
        promise = 17;
        FuseTreaty x = with(SQUARE);
        eq("first(0)", x.first(0), 5);
        eq("first(1)", x.first(1), 0);
        x.hours(4);
        eq("first(0)", x.first(0), 1);
        x.hours(1);
        eq("of those that are gone", x.count(6), 3);
        eq("first(0)", x.first(0), 1);
        eq("first(1)", x.first(1), 3);
        x.hours(1);
        eq("first(0)", x.first(0), -2);
        eq("first(1)", x.first(1), -2);
        eq("first(2)", x.first(2), NONE);
        eq("first(-1)", x.first(-1), NONE);
        FuseTreaty y = with("flat m 0; flat a 0; wire m a 5; use u a 1 0 23; goes = if age < 199 then 0 else 1;");
        eq("the 200th hour", y.first(0), 200);
        FuseTreaty z = with("flat m 0; flat a 0; wire m a 5; use u a 1 0 23; goes = if age < 200 then 0 else 1;");
        eq("not within 200", z.first(0), -2);
        z.hours(1);
        eq("now it is", z.first(0), 200);
        eq("no surges", with(PAIR + "surge 100 9;").first(0), -2);
    }

    private static void together() {
        promise = 18;
        FuseTreaty x = with("flat m 0; flat a 0; flat b 0; flat c 0; wire m a 10; wire m b 6; use p a 6 5 6; use q a 5 0 0;"
            + "use r a 4 0 0; use s b 7 0 0; use t b 6 3 3; use u c 9 0 23;");
        eq("together(0)", x.together(0), 16);
        eq("together(1)", x.together(1), 16 + 4 + 1);
        x.agree(0, false);
        eq("agreed or not", x.together(0), 16);
        x.pin(0, true);
        eq("a pinned one does not go", x.together(0), 21);
        eq("together(1)", x.together(1), 16 + 4 + 2 + 1);
        eq("together(2)", x.together(2), NONE);
        eq("together(-1)", x.together(-1), NONE);
        FuseTreaty y = with("flat m 0; flat a 0; wire m a 10; use p a 6 0 0; use q a 5 0 0; use r a 6 0 0; pays = 3;");
        eq("together(0)", y.together(0), 3);
        eq("of alike ones the least bits", y.together(1), 1);
        FuseTreaty z = with("flat m 0; flat a 0; wire m a 10; use p a 6 0 0; pays = 0;");
        eq("nothing is paid", z.together(1), 0);
        FuseTreaty v = with("flat m 0; flat a 0; wire m a 10; use p a 6 0 0; goes = hour; pays = 2 + hour;");
        eq("by this hour's laws", v.together(0), 2);
        v.hours(1);
        eq("by this hour's laws", v.together(0), 0);
    }

    private static void when() {
        promise = 19;
        String pair = "flat m 0; flat a 0; wire m a 10; use p a 6 0 3; use q a 6 5 9; use r a 4 4 23; use s a 5 0 1;";
        FuseTreaty x = with(pair);
        eq("when(1)", x.when(1), 4);
        eq("when(0)", x.when(0), 10);
        eq("when(2)", x.when(2), 2);
        x.agree(1, false);
        eq("others as they are", x.when(0), 2);
        eq("agreed or not", x.when(1), 4);
        FuseTreaty y = with("flat m 0; flat a 0; wire m a 10; use p a 6 20 23; use q a 6 0 19; use r a 6 0 0;");
        eq("where it is", y.when(2), -2);
        y.agree(0, false);
        eq("the 20th", y.when(2), 20);
        eq("behind the other one", y.when(1), 1);
        FuseTreaty all = with("flat m 0; flat a 0; wire m a 10; use p a 6 0 23; use q a 6 0 0;");
        eq("to hour 23 at most", all.when(0), -2);
        y.agree(2, false);
        eq("from 0", y.when(1), 0);
        FuseTreaty z = with("flat m 0; flat a 0; flat b 0; wire m a 5; use p a 6 7 7; use q b 9 0 9;");
        eq("in the dark it adds nothing", z.when(1), 8);
        eq("when(0)", z.when(0), -2);
        z.pin(0, true);
        eq("pinned", z.when(0), 0);
        FuseTreaty v = with("flat m 0; flat a 0; wire m a 5; use p a 1 7 7; goes = 5 - hour + day * 2 + age - 30;");
        v.hours(27);
        eq("by the hour, with day and age as now", v.when(0), 4);
        for (int u : new int[] {-1, 4, Integer.MAX_VALUE, Integer.MIN_VALUE}) eq("when(" + u + ")", x.when(u), NONE);
    }

    private static void thick() {
        promise = 20;
        FuseTreaty x = with("flat m 0; flat a 0; flat b 0; wire m a 5; wire a b 5; use u b 6 3 3; use v a 9 8 9;");
        eq("first(0)", x.first(0), 4);
        eq("both go", x.thick(20), -2);
        x.pin(1, true);
        eq("thick(1)", x.thick(1), 0);
        x.pin(1, false);
        x.agree(0, false);
        eq("first(0)", x.first(0), 9);
        eq("thick(3)", x.thick(3), -2);
        eq("thick(4)", x.thick(4), 0);
        x.agree(1, false);
        eq("none goes", x.thick(20), -2);
        eq("thick(0)", x.thick(0), NONE);
        eq("thick(21)", x.thick(21), NONE);
        eq("thick(-1)", x.thick(-1), NONE);
        eq("nothing happens", x.wire(0, 2), 5);
        FuseTreaty y = with("flat m 0; flat a 0; wire m a 95; use u a 1 0 23; goes = age - rating;");
        eq("first(0)", y.first(0), 97);
        eq("thick(1)", y.thick(1), 0);
        y.hours(1);
        eq("thick(20)", y.thick(20), 0);
        FuseTreaty z = with("flat m 0; flat a 0; wire m a 99; use u a 1 0 23; goes = age - rating;");
        eq("99 at most", z.thick(20), -2);
        FuseTreaty v = with("flat m 0; flat a 0; flat b 0; wire m a 5; wire m b 5; use u a 1 0 23; goes = age - rating;");
        eq("one with nothing in it does not help", v.thick(20), 0);
        FuseTreaty late = with("flat m 0; flat a 0; wire m a 5; use u a 1 0 23; goes = if age < rating + 194 then 0 else 1;");
        eq("the 200th hour", late.first(0), 200);
        eq("none goes is later", late.thick(1), 0);
        FuseTreaty w = with("flat m 0; flat a 0; wire m a 5; use u a 6 0 23; coins 0;");
        eq("no coins are asked for", w.thick(1), 0);
    }

    private static void cut() {
        promise = 21;
        FuseTreaty x = with(SQUARE);
        eq("cut(2, NONE)", x.cut(2, NONE), 2);
        eq("cut(2, 0)", x.cut(2, 0), 0);
        eq("cut(2, 1)", x.cut(2, 1), 2);
        eq("cut(2, 2)", x.cut(2, 2), NONE);
        eq("cut(4, NONE)", x.cut(4, NONE), 1);
        eq("cut(4, 0)", x.cut(4, 0), 4);
        eq("cut(0, NONE)", x.cut(0, NONE), -2);
        eq("cut(0, 2)", x.cut(0, 2), -2);
        eq("cut(0, 3)", x.cut(0, 3), NONE);
        eq("cut(0, -2)", x.cut(0, -2), NONE);
        eq("cut(2, MAX)", x.cut(2, Integer.MAX_VALUE), NONE);
        eq("cut(2, MIN)", x.cut(2, Integer.MIN_VALUE), NONE);
        for (int f : new int[] {-1, 5, Integer.MAX_VALUE, Integer.MIN_VALUE}) eq("cut(" + f + ", NONE)", x.cut(f, NONE), NONE);
        x.hours(6);
        eq("not lit", x.cut(4, NONE), 0);
        eq("not lit", x.cut(4, 0), NONE);
        String star = "flat m 0; flat a 0; flat b 0; flat c 0; flat d 0; wire m a 1; wire m b 1; wire m c 1;"
            + "wire a d 1; wire b d 1; wire c d 1;";
        FuseTreaty y = with(star);
        eq("cut(4, NONE)", y.cut(4, NONE), 3);
        eq("cut(4, 0)", y.cut(4, 0), 0);
        eq("cut(4, 1)", y.cut(4, 1), 1);
        eq("cut(4, 2)", y.cut(4, 2), 2);
        eq("cut(1, NONE)", y.cut(1, NONE), 2);
        eq("cut(1, 1)", y.cut(1, 1), 3);
        FuseTreaty z = with(star + "wire m d 1;");
        eq("not by three", z.cut(4, NONE), -2);
        eq("not by three", z.cut(4, 1), -2);
    }

    private static void share() {
        promise = 22;
        FuseTreaty x = with(SQUARE);
        x.hours(4);
        eq("share(1, 0)", x.share(1, 0), 5);
        eq("share(2, 0)", x.share(2, 0), 7);
        eq("share(4, 0)", x.share(4, 0), 1);
        eq("share(1, 1)", x.share(1, 1), 0);
        eq("share(4, 4)", x.share(4, 4), 1);
        eq("share(0, 0)", x.share(0, 0), 0);
        eq("share(5, 0)", x.share(5, 0), NONE);
        eq("share(-1, 0)", x.share(-1, 0), NONE);
        eq("share(0, 5)", x.share(0, 5), NONE);
        eq("share(0, -1)", x.share(0, -1), NONE);
        x.hours(1);
        eq("what is gone has no share", x.share(1, 0), 0);
    }

    private static void withoutNeeded() {
        promise = 23;
        FuseTreaty x = with(SQUARE);
        eq("without(0)", x.without(0), 0);
        eq("without(4)", x.without(4), 16);
        eq("without(5)", x.without(5), NONE);
        eq("without(-1)", x.without(-1), NONE);
        promise = 24;
        eq("needed()", x.needed(), 16);
        x.hours(5);
        eq("gone", x.count(6), 3);
        eq("needed()", x.needed(), 4 + 8 + 16);
        promise = 23;
        eq("without(4)", x.without(4), 16 + 2);
        eq("without one that is gone", x.without(0), 2);
        promise = 24;
        eq("needed() of none", new FuseTreaty().needed(), 0);
        eq("a wire between dark ones", with("flat m 0; flat a 0; flat b 0; wire a b 1;").needed(), 0);
    }

    private static void hottest() {
        promise = 25;
        FuseTreaty x = with(SQUARE);
        eq("hottest(0)", x.hottest(0), 3);
        eq("hottest(1)", x.hottest(1), -4);
        x.hours(4);
        eq("hottest(0)", x.hottest(0), 0);
        eq("hottest(1)", x.hottest(1), 3);
        x.hours(1);
        eq("of whole ones", x.hottest(0), 3);
        eq("of whole ones", x.hottest(1), 4);
        eq("hottest(2)", x.hottest(2), -1000);
        eq("hottest(-1)", x.hottest(-1), -1000);
        FuseTreaty y = with("flat m 0; flat a 0; flat b 0; wire m a 5; wire m b 5;");
        eq("of alike ones the first", y.hottest(0), 0);
        FuseTreaty z = with(PAIR + "goes = 1;");
        z.hours(1);
        eq("no whole one", z.hottest(0), -2000);
        eq("no whole one", z.hottest(1), -2000);
        eq("no whole one", z.hottest(2), -1000);
    }

    private static void clash() {
        promise = 26;
        FuseTreaty x = with("flat m 0; flat a 0; flat b 0; flat c 0; wire m a 9; wire a b 5; use p b 5 7 7; use q a 5 8 8;"
            + "use r b 6 9 9; use s c 19 0 0; use t a 10 0 0;");
        eq("clash(0, 1)", x.clash(0, 1), 1);
        eq("clash(1, 0)", x.clash(1, 0), 1);
        eq("clash(0, 2): one of them goes by one alone", x.clash(0, 2), 1);
        eq("clash(1, 2)", x.clash(1, 2), 1);
        eq("clash(0, 4): it goes by one alone", x.clash(0, 4), 0);
        eq("clash(0, 3): in the dark", x.clash(0, 3), 0);
        x.agree(0, false);
        eq("agreed or not", x.clash(0, 1), 1);
        x.pin(0, true);
        eq("pinned", x.clash(0, 1), 0);
        eq("clash(0, 0)", x.clash(0, 0), NONE);
        eq("clash(3, 3)", x.clash(3, 3), NONE);
        eq("clash(0, 5)", x.clash(0, 5), NONE);
        eq("clash(-1, 0)", x.clash(-1, 0), NONE);
    }

    private static void then() {
        promise = 27;
        FuseTreaty x = with(SQUARE + "quarrel = temper; pays = amps; coins 3;");
        eq("then(0, 0)", x.then(0, 0), 0);
        eq("then(0, 1)", x.then(0, 1), 0);
        eq("then(0, 2)", x.then(0, 2), 0);
        eq("then(5, 0)", x.then(5, 0), 5 * 5 + 3 * 3 + 4 * 1 + 4);
        eq("then(5, 1)", x.then(5, 1), 0);
        eq("then(5, 2)", x.then(5, 2), 2);
        eq("then(6, 1)", x.then(6, 1), 3);
        eq("then(7, 1)", x.then(7, 1), 3 + 3 + 5 + 9);
        eq("then(72, 2)", x.then(72, 2), 3);
        x.hours(5);
        eq("how many are gone", x.then(0, 2), 2);
        eq("how many more", x.then(1, 1), 3);
        for (int n : new int[] {-1, 73, Integer.MAX_VALUE, Integer.MIN_VALUE}) eq("then(" + n + ", 0)", x.then(n, 0), NONE);
        eq("then(1, 3)", x.then(1, 3), NONE);
        eq("then(1, -1)", x.then(1, -1), NONE);
        eq("nothing happens", x.count(3), 5);
        eq("with surges", with(PAIR + "surge 100 1;").then(1, 2), 1);
        promise = 28;
        eq("litIn(4, 0)", x.litIn(4, 0), 1);
        eq("litIn(4, 1)", x.litIn(4, 1), 0);
        eq("litIn(0, 72)", x.litIn(0, 72), 1);
        eq("with surges", with(PAIR + "surge 100 1;").litIn(1, 1), 0);
        for (int n : new int[] {-1, 73, Integer.MAX_VALUE, Integer.MIN_VALUE}) eq("litIn(0, " + n + ")", x.litIn(0, n), NONE);
        eq("litIn(5, 1)", x.litIn(5, 1), NONE);
        eq("litIn(-1, 1)", x.litIn(-1, 1), NONE);
    }

    private static void year() {
        promise = 29;
        int seed = 9990;
        FuseTreaty x = with(PAIR + "surge 10 1; seed " + seed + ";");
        for (int n = 0; n <= 24; n += 4) {
            int calm = 0;
            for (int s = seed; s < seed + 20; s++) {
                boolean none = true;
                for (int hour = 0; hour < n; hour++) none &= lot(100, s, 4 * hour) >= 10;
                calm += none ? 1 : 0;
            }
            eq("year(" + n + ", 20)", x.year(n, 20), calm);
        }
        eq("year(0, 1)", x.year(0, 1), 1);
        for (int n : new int[] {-1, 73, Integer.MAX_VALUE, Integer.MIN_VALUE}) eq("year(" + n + ", 1)", x.year(n, 1), NONE);
        for (int s : new int[] {-1, 0, 21, Integer.MAX_VALUE, Integer.MIN_VALUE}) eq("year(1, " + s + ")", x.year(1, s), NONE);
        FuseTreaty y = with(PAIR + "goes = hour - 1;");
        eq("year(2, 7)", y.year(2, 7), 7);
        eq("year(3, 7)", y.year(3, 7), 0);
        y.hours(3);
        eq("none more", y.year(72, 7), 7);
    }

    private static void told() {
        promise = 30;
        FuseTreaty x = with("flat m 0; flat a 0; flat b 0; flat c 0; flat d 0;"
            + "wire m a 1; wire a b 1; wire b c 1; wire m d 1;");
        eq("tell(2, false)", x.tell(2, false), 0);
        eq("tell(1, true)", x.tell(1, true), 1);
        eq("tell(5, true)", x.tell(5, true), NONE);
        eq("tell(-1, true)", x.tell(-1, true), NONE);
        promise = 32;
        eq("went(0, 0)", x.went(0, 0), 4);
        eq("went(0, 1)", x.went(0, 1), 15);
        eq("went(1, 0)", x.went(1, 0), 2);
        eq("went(1, 1)", x.went(1, 1), 3);
        eq("went(2, 1)", x.went(2, 1), 2);
        eq("went(3, 1)", x.went(3, 1), NONE);
        eq("went(-1, 1)", x.went(-1, 1), NONE);
        eq("went(0, 2)", x.went(0, 2), NONE);
        eq("went(0, -1)", x.went(0, -1), NONE);
        promise = 33;
        eq("ask(0)", x.ask(0), 2);
        eq("ask(1)", x.ask(1), 1);
        eq("ask(2)", x.ask(2), 0);
        eq("ask(3)", x.ask(3), NONE);
        eq("ask(-1)", x.ask(-1), NONE);
        x.tell(0, false);
        eq("none is left", x.ask(3), -2);
        eq("none is left", x.went(3, 0), 0);
        promise = 30;
        for (int i = 3; i < 20; i++) eq("tell", x.tell(0, true), i);
        eq("a 21st", x.tell(0, true), NONE);
        eq("count(11)", x.count(11), 20);
        eq("went(20, 0)", x.went(20, 0), 0);
        promise = 31;
        eq("forget()", x.forget(), 20);
        eq("forget()", x.forget(), 0);
        eq("count(11)", x.count(11), 0);
        eq("went(1, 0)", x.went(1, 0), NONE);
        eq("tell(0, true)", x.tell(0, true), 0);
        promise = 32;
        FuseTreaty y = with(SQUARE);
        y.hours(5);
        y.tell(4, false);
        eq("of those whole now", y.went(1, 1), 4 + 8 + 16);
        eq("none of those gone", y.went(0, 1), 4 + 8 + 16);
    }

    private static void slots() {
        promise = 34;
        FuseTreaty x = with(SQUARE + "costs = 1; quarrel = 1;");
        is("hold(3)", x.hold(3), false);
        is("hold(-1)", x.hold(-1), false);
        x.pin(2, true);
        x.thicken(2);
        x.agree(3, false);
        x.hours(8);
        is("hold(0)", x.hold(0), true);
        eq("count(12)", x.count(12), 1);
        is("hold(0)", x.hold(0), true);
        eq("count(12)", x.count(12), 1);
        eq("hold keeps what can be undone", x.count(10), 4);
        int[] was = new int[16];
        for (int i = 0; i < 16; i++) was[i] = x.count(i);
        int dark = x.flat(2, 2);
        int age = x.wire(2, 4);
        x.tell(1, true);
        x.feed(0, 0, 0, 0, 0);
        x.mend(0);
        x.pin(2, false);
        x.agree(3, true);
        x.thicken(2);
        x.hours(50);
        is("hold(2)", x.hold(2), true);
        eq("count(12)", x.count(12), 2);
        promise = 35;
        is("restore(1)", x.restore(1), false);
        is("restore(3)", x.restore(3), false);
        is("restore(-1)", x.restore(-1), false);
        eq("nothing happens", x.count(10), 9);
        is("restore(0)", x.restore(0), true);
        for (int i = 0; i < 9; i++) eq("count(" + i + ")", x.count(i), was[i]);
        for (int i = 13; i < 16; i++) eq("count(" + i + ")", x.count(i), was[i]);
        eq("the tape stays", x.count(9), 20);
        eq("what is told stays", x.count(11), 1);
        eq("dark", x.flat(2, 2), dark);
        eq("age", x.wire(2, 4), age);
        eq("agreed", x.use(3, 4), 0);
        eq("nothing can be undone", x.count(10), 0);
        is("undo()", x.undo(), false);
        eq("count(12)", x.count(12), 2);
        x.hours(10);
        is("that stays there", x.restore(0), true);
        eq("count(3)", x.count(3), was[3]);
        is("restore(2)", x.restore(2), true);
        eq("count(3)", x.count(3), 58);
    }

    private static void count() {
        promise = 36;
        FuseTreaty x = with(SQUARE);
        x.hours(5);
        x.pin(2, true);
        int[] due = {5, 5, 5, 5, 100 + 42, 0, 3, 29, 1 + 2 + 4 + 16 - 1, 0, 2, 0, 0, 0, 4, 17};
        for (int i = 0; i < due.length; i++) eq("count(" + i + ")", x.count(i), due[i]);
        for (int what : new int[] {-1, 16, Integer.MAX_VALUE, Integer.MIN_VALUE}) eq("count(" + what + ")", x.count(what), NONE);
    }

    /** No call may throw, whatever it is given: here on a new object, on a full one, and on one that is all gone. */
    private static void anyArguments() {
        int[] odd = {Integer.MIN_VALUE, -33, -32, -2, -1, 0, 1, 2, 3, 6, 7, 8, 9, 10, 20, 31, 32, 33, 48, 72, 100, Integer.MAX_VALUE};
        FuseTreaty gone = with(PAIR + "goes = 1;");
        gone.hours(1);
        for (FuseTreaty x : new FuseTreaty[] {new FuseTreaty(), with(SQUARE), gone}) {
            for (int a : odd) {
                x.back(a); x.mend(a); x.thicken(a); x.hours(a); x.first(a); x.together(a); x.when(a); x.thick(a);
                x.without(a); x.hottest(a); x.ask(a); x.hold(a); x.restore(a); x.count(a); x.agree(a, true); x.agree(a, false);
                x.pin(a, true); x.pin(a, false); x.tell(a, true); x.undo(); x.needed(); x.place(); x.feed(a, a, a, a, a);
                for (int b : odd) {
                    x.flat(a, b); x.wire(a, b); x.use(a, b); x.way(a, b); x.cut(a, b); x.share(a, b); x.clash(a, b);
                    x.then(a, b); x.litIn(a, b); x.year(a, b); x.went(a, b); x.peak(a, b, 0); x.peak(0, a, b);
                }
            }
        }
    }
}
