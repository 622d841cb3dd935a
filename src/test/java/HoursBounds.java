/** The sentences of part II: hours, ways, loads, laws, lots, an hour that goes by, and what is done by hand. */
final class HoursBounds {
    private static final int NONE = FuseTreaty.NONE;
    /** Seven flats in a row, six wires, and a use at its end. */
    private static final String ROW = "flat a 0;flat b 1;flat c 2;flat d 3;flat e 4;flat f 5;flat g 6;"
        + "wire a b 9;wire c b 9;wire c d 9;wire e d 9;wire e f 9;wire g f 9;use u g 4 0 23;";

    private HoursBounds() { }

    static void run() {
        counted();
        on();
        lit();
        way();
        load();
        lawChosen();
        lawWraps();
        lawRounds();
        lawByZero();
        lawVars();
        lawHours();
        goes();
        quarrel();
        costs();
        pays();
        lots();
        paid();
        gone();
        dark();
        older();
        nextHour();
        agreed();
        mended();
        thickened();
        pinned();
        hoursGoBy();
    }

    private static void counted() {
        Says.says("HOURS are counted on; the hour of the day: its rest by 24; the day: it by 24.");
        String text = "flat m 0; use u m 1 0 23; use v m 1 23 23; use w m 1 0 0; pays = hour + day * 30;";
        int[] hours = {0, 1, 23, 24, 25, 47, 48, 71, 72, 95};
        for (int h : hours) {
            FuseTreaty x = Says.with(text, h);
            Says.eq("the hour", x.count(3), h);
            Says.eq("its rest by 24, and it by 24, in hour " + h, x.use(0, 6), Math.min(99, h % 24 + h / 24 * 30));
            Says.eq("the uses in hour " + h, x.count(8), h % 24 == 23 ? 3 : h % 24 == 0 ? 5 : 1);
        }
        Says.eq("a day of 98", Says.with("flat m 0; use u m 1 0 23; pays = day;", 98 * 24 + 23).use(0, 6), 98);
        Says.eq("a day of 99", Says.with("flat m 0; use u m 1 0 23; pays = day;", 99 * 24).use(0, 6), 99);
    }

    private static void on() {
        Says.says("A USE is ON in an hour if it is agreed, it is its hour (FROM .. TILL), and its FLAT is LIT.");
        FuseTreaty x = Says.with("flat m 0; flat a 0; flat b 0; wire m a 9; use u a 1 5 7; use v a 1 0 23; use w b 1 0 23; use t a 1 23 23;");
        for (int h = 0; h < 49; h++) {
            int day = h % 24;
            Says.eq("on in hour " + h, x.count(8), (day >= 5 && day <= 7 ? 1 : 0) + 2 + (day == 23 ? 8 : 0));
            for (int u = 0; u < 4; u++) Says.eq("use " + u, x.use(u, 5), x.count(8) >> u & 1);
            x.hours(1);
        }
        FuseTreaty y = Says.with("flat m 0; flat a 0; wire m a 9; use u a 1 0 23; goes = hour;");
        y.agree(0, false);
        Says.eq("not agreed", y.use(0, 5), 0);
        y.agree(0, true);
        Says.eq("agreed", y.use(0, 5), 1);
        y.hours(1);
        Says.eq("lit", y.use(0, 5), 1);
        y.hours(1);
        Says.eq("not lit", y.use(0, 5), 0);
        y.mend(0);
        Says.eq("lit again", y.use(0, 5), 1);
    }

    private static void lit() {
        Says.says("LIT is a FLAT from which whole WIRES lead to FLAT 0 (that itself too).");
        Says.eq("no flats", new FuseTreaty().count(7), 0);
        Says.eq("flat 0 itself", Says.with("flat a 0;").count(7), 1);
        Says.eq("a flat without wires", Says.with("flat a 0;flat b 0;").count(7), 1);
        Says.eq("wires that lead elsewhere", Says.with("flat a 0;flat b 0;flat c 0;wire b c 1;").count(7), 1);
        Says.eq("six wires", Says.with(ROW).count(7), 127);
        for (int w = 0; w < 6; w++) {
            FuseTreaty x = Says.with(ROW + "goes = if which < " + w + " then 0 else if " + w + " < which then 0 else 1;", 1);
            Says.eq("gone", x.count(6), 1 << w);
            Says.eq("lit without wire " + w, x.count(7), (1 << w + 1) - 1);
            for (int f = 0; f < 7; f++) Says.eq("flat " + f, x.flat(f, 1), f <= w ? 1 : 0);
        }
    }

    private static void way() {
        Says.says("Its WAY: with fewest WIRES; of alike ones, from the FLAT on, each time by the WIRE with the lowest number.");
        FuseTreaty x = Says.with("flat m 0; flat a 0; flat b 0; wire m a 1; wire a b 1; wire m b 1;");
        Says.eq("one wire is fewer than two lower ones", x.way(2, 0), 2);
        Says.eq("no second one", x.way(2, 1), NONE);
        FuseTreaty y = Says.with("flat m 0; flat a 0; flat b 0; flat c 0; wire b c 1; wire m a 1; wire a c 1; wire m b 1;");
        Says.eq("the lowest from the flat on", y.way(3, 0), 0);
        Says.eq("whatever comes behind it", y.way(3, 1), 3);
        FuseTreaty z = Says.with("flat m 0; flat a 0; flat b 0; flat c 0; flat d 0; wire d c 1; wire m b 1; wire a c 1; wire m a 1; wire b c 1;");
        Says.eq("the first time", z.way(4, 0), 0);
        Says.eq("each time by the lowest", z.way(4, 1), 2);
        Says.eq("the last time", z.way(4, 2), 3);
        FuseTreaty row = Says.with(ROW);
        for (int f = 0; f < 7; f++) {
            Says.eq("how many of flat " + f, row.flat(f, 3), f);
            for (int i = 0; i < f; i++) Says.eq("way of flat " + f, row.way(f, i), f - 1 - i);
            Says.eq("no more of flat " + f, row.way(f, f), NONE);
        }
        FuseTreaty v = Says.with("flat m 0; flat a 0; flat b 0; wire m a 9; wire a b 9; wire m b 9; use u b 9 0 0; goes = 1;", 1);
        Says.eq("by whole wires", v.way(2, 0), 1);
        Says.eq("by whole wires", v.way(2, 1), 0);
    }

    private static void load() {
        Says.says("LOAD of a WIRE: AMPS of all USES ON whose FLAT's WAY goes by it, together.");
        StringBuilder eight = new StringBuilder("flat m 0; flat a 0; flat b 0; wire m a 99; wire a b 99; wire m b 99;");
        for (char c = 'p'; c < 'x'; c++) eight.append("use ").append(c).append(" a 19 0 0;");
        FuseTreaty x = Says.with(eight.toString());
        Says.eq("8 uses of 19 amps", x.wire(0, 6), 152);
        Says.eq("a wire of no way", x.wire(1, 6), 0);
        Says.eq("another's wire", x.wire(2, 6), 0);
        x.agree(7, false);
        Says.eq("7 of them", x.wire(0, 6), 133);
        FuseTreaty y = Says.with(ROW + "use v a 19 0 23;use w d 2 0 0;");
        for (int w = 0; w < 6; w++) Says.eq("in wire " + w, y.wire(w, 6), w < 3 ? 6 : 4);
        y.hours(1);
        for (int w = 0; w < 6; w++) Says.eq("in wire " + w + " an hour later", y.wire(w, 6), 4);
        FuseTreaty z = Says.with(Says.PAIR + "goes = 1;", 1);
        Says.eq("what is gone has none", z.wire(0, 6), 0);
    }

    /** What a law tells of a use's pay in hour 30 (6 of day 1), with 5 amps, and which 0. */
    private static void pay(String law, int want) {
        Says.eq("pays = " + law, Says.with("flat m 0; use u m 5 0 23; pays = " + law + ";", 30).use(0, 6), want);
    }

    private static void lawChosen() {
        Says.says("LAWS: the E of the first if that holds (one less than the other), else the last one;");
        pay("if 1 < 2 then 3 else 4", 3);
        pay("if 2 < 2 then 3 else 4", 4);
        pay("if 3 < 2 then 3 else 4", 4);
        pay("if 0 - 1 < 0 then 3 else 4", 3);
        pay("if 1 < 2 then 3 else if 1 < 2 then 5 else 4", 3);
        pay("if 2 < 2 then 3 else if 1 < 2 then 5 else 4", 5);
        for (int holds = 0; holds <= 4; holds++) {
            StringBuilder law = new StringBuilder();
            for (int i = 0; i < 4; i++) law.append("if ").append(holds).append(" < ").append(i + 1).append(" then ").append(10 + i).append(" else ");
            pay(law + "14", 10 + holds);
        }
        longestLaws();
    }

    /** A text of 400 TOKENS with one law in it; a law with as many ifs as can be; laws with as many ( as can be. */
    private static void longestLaws() {
        String ahead = "flat m 0; use u m 1 0 23; pays = ";
        Says.eq("a law as long as can be", Says.with("flat m 0; quarrel = 5" + "+1-1".repeat(97) + "+9-2;").flat(0, 4), 12);
        StringBuilder ifs = new StringBuilder(ahead);
        for (int i = 0; i < 4; i++) ifs.append("if 2").append("+1-1".repeat(7)).append(" < 1").append("*1/1".repeat(7)).append(" then 3 else ");
        Says.eq("long ifs", Says.with(ifs + "7" + "+0".repeat(40) + ";").use(0, 6), 7);
        Says.eq("as deep as can be", Says.with(ahead + "1+2*(1+2*(1+2*(1+2*(1+2*(1+2*3)))))-99-97;").use(0, 6), 59);
        Says.eq("as deep on both sides", Says.with(ahead + "((((((2))))))*((((((3))))))-(1-(2-(3-(4-(5-(6))))));").use(0, 6), 9);
    }

    private static void lawWraps() {
        Says.says("ints of 32 bits that wrap,");
        String top = "8191 * 8191 * 32";
        pay("if 8192 * 8192 * 32 < 0 then 8 else 9", 8);
        pay("if 8192 * 8192 * 32 - 1 < 0 then 8 else 9", 9);
        pay("if 8192 * 8192 * 32 - 1 < 8192 * 8192 * 32 then 8 else 9", 9);
        pay("if " + top + " < 0 then 8 else 9", 9);
        pay("8192 * 8192 * 64 + 7", 7);
        pay("(0 - 8192 * 8192 * 32 - 1) / 8192 / 8192", 31);
        pay("if 0 - 8192 * 8192 * 32 < 0 then 8 else 9", 8);
        pay("if 9999 * 9999 * 22 < 0 then 8 else 9", 8);
        pay("9999 * 9999 * 21 / 9999 / 9999", 21);
        pay("if (8192 * 8192 * 32) / (0 - 1) < 0 then 8 else 9", 8);
    }

    private static void lawRounds() {
        Says.says("/ rounded towards 0;");
        pay("7 / 2", 3);
        pay("20 + (0 - 7) / 2", 17);
        pay("20 + 7 / (0 - 2)", 17);
        pay("20 + (0 - 7) / (0 - 2)", 23);
        pay("20 + (0 - 1) / 2", 20);
        pay("1 / 2", 0);
        pay("7 / 2 * 2", 6);
        pay("2 * 7 / 2", 7);
        pay("64 / 4 / 2", 8);
        pay("20 - 5 - 3", 12);
        pay("20 - 5 + 3", 18);
        pay("1 + 2 * 3", 7);
        pay("(1 + 2) * 3", 9);
    }

    private static void lawByZero() {
        Says.says("a LAW in which something that is looked at is divided by 0 is 0;");
        pay("50 + 5 / 0", 0);
        pay("50 + 0 / 0", 0);
        pay("5 / 0 + 50", 0);
        pay("50 + 0 * (5 / (3 - 3))", 0);
        pay("50 + 5 / (5 / 0 + 1)", 0);
        pay("if 1 / 0 < 2 then 50 else 50", 0);
        pay("if 1 < 2 / 0 then 50 else 50", 0);
        pay("if 1 < 2 then 5 / 0 else 50", 0);
        pay("if 2 < 1 then 50 else 5 / 0", 0);
        pay("if 1 < 2 then 50 else 5 / 0", 50);
        pay("if 2 < 1 then 5 / 0 else 50", 50);
        pay("if 1 < 2 then 50 else if 1 / 0 < 2 then 3 else 4", 50);
        pay("if 2 < 1 then 50 else if 1 / 0 < 2 then 3 else 4", 0);
        pay("if 2 < 1 then 5 / 0 else if 1 < 2 then 50 else 4 / 0", 50);
        FuseTreaty x = Says.with(Says.PAIR + "goes = 1 + 1 / hour; quarrel = 8 / dark; costs = 7 / age;");
        Says.eq("goes, by 0", x.wire(0, 8), 0);
        Says.eq("quarrel, by 0", x.flat(1, 4), 0);
        Says.eq("costs, by 0", x.wire(0, 7), 0);
        x.hours(1);
        Says.eq("goes, by 1", x.wire(0, 8), 1);
        Says.eq("costs, by 1", x.wire(0, 7), 7);
        x.hours(2);
        Says.eq("quarrel, by 1", x.flat(1, 4), 8);
    }

    private static final String[] VARS = {"load", "rating", "age", "amps", "temper", "dark", "which"};

    /** A house in which no VAR is 0 for a LAW that knows it, once it is hour 27: flat 2 has been dark all the time. */
    private static FuseTreaty varied(String law) {
        return Says.with("flat m 1; flat a 2; flat b 3; flat c 4; wire m a 60; wire m c 61; use u a 5 0 23; use v c 7 0 23; " + law, 27);
    }

    private static void lawVars() {
        Says.says("a VAR not told for a LAW is 0 in it;");
        int[] goes = {7, 61, 27, 0, 0, 0, 1};
        int[] quarrel = {0, 0, 0, 0, 3, 27, 2};
        int[] costs = {0, 61, 27, 0, 0, 0, 1};
        int[] pays = {0, 0, 0, 7, 0, 0, 1};
        for (int i = 0; i < VARS.length; i++) {
            String var = VARS[i];
            Says.eq("quarrel = " + var, varied("quarrel = " + var + ";").flat(2, 4), quarrel[i]);
            Says.eq("costs = " + var, varied("costs = " + var + ";").wire(1, 7), costs[i]);
            Says.eq("pays = " + var, varied("pays = " + var + ";").use(1, 6), pays[i]);
            String late = "goes = if 26 < hour + day * 24 then " + var + " + 1 - ";
            Says.eq("goes = " + var + " is not less", varied(late + goes[i] + " else 0;").wire(1, 8), 1);
            Says.eq("goes = " + var + " is not more", varied(late + (goes[i] + 1) + " else 0;").wire(1, 8), 0);
        }
    }

    private static void lawHours() {
        Says.says("hour (of the day), day for all.");
        FuseTreaty x = Says.with(Says.PAIR + "goes = hour + day * 30 - 59; quarrel = hour + day * 30; costs = hour + day * 30; pays = hour + day * 30;");
        x.agree(0, false);
        x.hours(47);
        x.agree(0, true);
        Says.eq("quarrel in hour 47", x.flat(1, 4), 53);
        Says.eq("costs in hour 47", x.wire(0, 7), 53);
        Says.eq("pays in hour 47", x.use(0, 6), 53);
        Says.eq("goes in hour 47", x.wire(0, 8), 0);
        x.hours(1);
        Says.eq("quarrel in hour 48", x.flat(1, 4), 60);
        Says.eq("costs in hour 48", x.wire(0, 7), 60);
        Says.eq("pays in hour 48", x.use(0, 6), 60);
        Says.eq("goes in hour 48", x.wire(0, 8), 1);
    }

    private static void goes() {
        Says.says("GOES of a whole WIRE (load, rating, age: for how many hours it is there, which: its number):"
            + " it goes if that tells more than 0, and it is not PINNED, and its LOAD is more than 0.");
        String house = "flat m 0; flat a 0; flat b 0; wire m a 5; wire m b 6; use u a 5 0 23; use v b 7 1 23; goes = ";
        Says.eq("0 is not more", Says.with(house + "0;").wire(0, 8), 0);
        Says.eq("1 is more", Says.with(house + "1;").wire(0, 8), 1);
        Says.eq("below 0", Says.with(house + "0 - 1;").wire(0, 8), 0);
        Says.eq("the most that there is", Says.with(house + "8192 * 8192 * 32 - 1;").wire(0, 8), 1);
        Says.eq("one more than that", Says.with(house + "8192 * 8192 * 32;").wire(0, 8), 0);
        FuseTreaty x = Says.with(house + "1;");
        x.pin(0, true);
        Says.eq("pinned", x.wire(0, 8), 0);
        Says.eq("nothing in it", x.wire(1, 8), 0);
        x.hours(1);
        Says.eq("none of them went", x.count(6), 0);
        Says.eq("something in it", x.wire(1, 8), 1);
        x.pin(0, false);
        Says.eq("the pin is taken", x.wire(0, 8), 1);
        x.hours(1);
        Says.eq("both went", x.count(6), 3);
        Says.eq("gone: it goes no more", x.wire(0, 8), 0);
        for (int age = 0; age < 4; age++) Says.eq("age " + age, Says.with(house + "age - 2;", age).wire(0, 8), age > 2 ? 1 : 0);
        Says.eq("wire 0", Says.with(house + "which;", 1).wire(0, 8), 0);
        Says.eq("wire 1", Says.with(house + "which;", 1).wire(1, 8), 1);
        Says.eq("5 in 5", Says.with(house + "load - rating;", 1).wire(0, 8), 0);
        Says.eq("7 in 6", Says.with(house + "load - rating;", 1).wire(1, 8), 1);
        Says.eq("7 in 7", Says.with(house.replace("m b 6", "m b 7") + "load - rating;", 1).wire(1, 8), 0);
    }

    private static void quarrel() {
        Says.says("QUARREL of a FLAT (temper; dark: for how many hours on end it is not LIT; which), held to 0 .. 99.");
        String house = "flat m 2; flat a 7; quarrel = ";
        int[] told = {-9999, -1, 0, 1, 98, 99, 100, 9999};
        for (int t : told) Says.eq("quarrel = " + t, Says.with(house + (t < 0 ? "0 - " + -t : "" + t) + ";").flat(1, 4), Math.max(0, Math.min(99, t)));
        Says.eq("temper", Says.with(house + "temper;").flat(1, 4), 7);
        Says.eq("which", Says.with(house + "which;").flat(1, 4), 1);
        Says.eq("dark at first", Says.with(house + "dark;").flat(1, 4), 0);
        Says.eq("dark for an hour", Says.with(house + "dark;", 1).flat(1, 4), 1);
        Says.eq("dark for 99 hours", Says.with(house + "dark;", 99).flat(1, 4), 99);
        Says.eq("dark for 100 hours", Says.with(house + "dark;", 100).flat(1, 4), 99);
        Says.eq("dark for 100 hours", Says.with(house + "dark - 1;", 100).flat(1, 4), 99);
        Says.eq("a lit one is not dark", Says.with(house + "dark;", 99).flat(0, 4), 0);
        Says.eq("held ahead of being put together", Says.with(house + "9999;", 2).count(5), 198);
        Says.eq("none below 0 is put together", Says.with(house + "0 - 5;", 2).count(5), 0);
    }

    private static void costs() {
        Says.says("COSTS of a WIRE (rating, age, which), held to 0 .. 99.");
        String house = "flat m 0; flat a 0; flat b 0; wire m a 5; wire m b 99; coins 999; costs = ";
        int[] told = {-9999, -1, 0, 1, 98, 99, 100, 9999};
        for (int t : told) {
            FuseTreaty x = Says.with(house + (t < 0 ? "0 - " + -t : "" + t) + ";");
            int held = Math.max(0, Math.min(99, t));
            Says.eq("costs = " + t, x.wire(0, 7), held);
            Says.eq("and it is taken", x.thicken(0), 999 - held);
        }
        Says.eq("rating", Says.with(house + "rating;").wire(0, 7), 5);
        Says.eq("rating 99", Says.with(house + "rating;").wire(1, 7), 99);
        Says.eq("which", Says.with(house + "which;").wire(1, 7), 1);
        Says.eq("age", Says.with(house + "age;", 98).wire(0, 7), 98);
        Says.eq("age", Says.with(house + "age;", 100).wire(0, 7), 99);
    }

    private static void pays() {
        Says.says("PAYS of a USE that is ON (amps, which), held to 0 .. 99.");
        String house = "flat m 0; flat a 0; use u m 5 0 0; use v m 19 0 23; use w a 3 0 23; coins 0; pays = ";
        int[] told = {-9999, -1, 0, 1, 98, 99, 100, 9999};
        for (int t : told) {
            FuseTreaty x = Says.with(house + (t < 0 ? "0 - " + -t : "" + t) + ";");
            int held = Math.max(0, Math.min(99, t));
            Says.eq("pays = " + t, x.use(0, 6), held);
            x.hours(1);
            Says.eq("and it comes, of those that are on", x.count(4), 2 * held);
            x.hours(1);
            Says.eq("and it comes, of the one that is on", x.count(4), 3 * held);
        }
        Says.eq("amps", Says.with(house + "amps;").use(1, 6), 19);
        Says.eq("which", Says.with(house + "which;").use(1, 6), 1);
        Says.eq("one that is not on, by its hour", Says.with(house + "9;", 1).use(0, 6), 0);
        Says.eq("one that is not on, in the dark", Says.with(house + "9;").use(2, 6), 0);
    }

    /** The document's words once more, with longs that are cut to 32 bits. */
    static int lot(int n, int seed, int which) {
        long h = seed;
        for (long it : new long[] {129, which}) {
            h = ((h ^ it) * 1103515245L + 12345L) & 0xFFFFFFFFL;
            h = h ^ h / 32768;
        }
        return (int) (h / 2 % n);
    }

    private static void lots() {
        Says.says("LOT n of a SEED and a which: h is the SEED; for each of 129, which: h becomes (h and it, each bit of which is in just one)"
            + " times 1103515245 and 12345 more, then h and h moved 15 bits down (zeros come in), likewise;"
            + " the rest of h, moved 1 bit down likewise, by n (32 bits that wrap).");
        boolean high = false;
        for (int seed : new int[] {0, 1, 129, 4711, 9998, 9999}) {
            for (int hour : new int[] {0, 1, 2, 3, 23, 24, 71, 100, 999, 5000}) {
                int lot = lot(100, seed, 4 * hour);
                high |= lot > 90;
                Says.eq("seed " + seed + ", hour " + hour + ", lot " + lot, Says.with("seed " + seed + ";surge " + lot + " 1;", hour).count(13), 0);
                Says.eq("seed " + seed + ", hour " + hour + ", one more than lot " + lot,
                    Says.with("seed " + seed + ";surge " + (lot + 1) + " 1;", hour).count(13), 1);
            }
        }
        Says.is("lots of all sizes come", high, true);
    }

    private static final String EIGHT = "use o m 1 0 23; use p m 1 0 23; use q m 1 0 23; use r m 1 0 23; use s m 1 0 23; use t m 1 0 23;"
        + "use u m 1 0 23; use v m 1 0 23; pays = 9999;";

    private static void paid() {
        Says.says("AN HOUR: all by how it was as it began: what USES ON PAY comes to the COINS (99,999 at most);");
        FuseTreaty x = Says.with("flat m 0;" + EIGHT + "coins 999;", 124);
        Says.eq("coins in hour 124", x.count(4), 999 + 124 * 792);
        x.hours(1);
        Says.eq("just as many as there can be", x.count(4), 99999);
        x.hours(1);
        Says.eq("no more", x.count(4), 99999);
        FuseTreaty y = Says.with("flat m 0;" + EIGHT + "coins 998;", 125);
        Says.eq("one less", y.count(4), 99998);
        y.hours(1);
        Says.eq("held to the most", y.count(4), 99999);
        FuseTreaty z = Says.with("flat m 0; flat a 0; wire m a 1; use u a 5 0 23; coins 0; pays = amps + hour;");
        z.hours(1);
        Says.eq("its wire went in this hour, and it paid by hour 0", z.count(4), 5);
        z.hours(1);
        Says.eq("in the next one it pays nothing", z.count(4), 5);
        Says.eq("not its hour", Says.with("flat m 0; use u m 5 1 1; coins 0;", 1).count(4), 0);
        Says.eq("its hour is over as it ends", Says.with("flat m 0; use u m 5 0 0; coins 0;", 2).count(4), 5);
    }

    private static void gone() {
        Says.says("WIRES that GO are GONE, in a SURGE (LOT 100 of the SEED and 4 * the hour, counted on, is less than how many)"
            + " by a load more by its AMPS (0 stays 0);");
        String house = "flat m 0; flat a 0; flat b 0; wire m a 24; wire m b 1; use u a 5 0 23;";
        Says.eq("5 and 19 in 24", Says.with(house + "surge 100 19;", 1).count(6), 0);
        Says.eq("5 and 19 in 23", Says.with(house.replace("24", "23") + "surge 100 19;", 1).count(6), 1);
        Says.eq("5 and 18 in 23", Says.with(house.replace("24", "23") + "surge 100 18;", 1).count(6), 0);
        Says.eq("0 stays 0", Says.with(house + "surge 100 19; goes = 1;", 1).count(6), 1);
        FuseTreaty pinned = Says.with(house + "surge 100 19; goes = 1;");
        pinned.pin(0, true);
        pinned.hours(9);
        Says.eq("pinned, in surges", pinned.count(6), 0);
        for (int hour : new int[] {0, 1, 2, 5, 24, 25, 26, 100}) {
            int lot = lot(100, 31, 4 * hour);
            String text = house.replace("24", "5") + "seed 31; goes = if hour + day * 24 < " + hour + " then 0 else load - rating; surge ";
            Says.eq("no surge in hour " + hour, Says.with(text + lot + " 1;", hour + 1).count(6), 0);
            Says.eq("a surge in hour " + hour, Says.with(text + (lot + 1) + " 1;", hour + 1).count(6), 1);
        }
        FuseTreaty both = Says.with("flat m 0; flat a 0; flat b 0; wire m a 1; wire a b 1; use u b 2 0 23;", 1);
        Says.eq("by how it was as it began both go", both.count(6), 3);
        FuseTreaty other = Says.with("flat m 0; flat a 0; flat b 0; wire m a 1; wire m b 2; wire a b 2; use u a 2 0 23;", 1);
        Says.eq("the way that comes then is not yet one", other.count(6), 1);
        Says.eq("it is in the next hour", other.wire(1, 6), 2);
    }

    private static void dark() {
        Says.says("each FLAT that was not LIT is DARK for an hour more, else for none, and there are as many QUARRELS more as QUARREL tells,"
            + " for those not LIT (999,999 at most, all together);");
        FuseTreaty x = Says.with("flat m 5; flat a 4; flat b 3; wire m a 1; use u a 2 1 1; quarrel = temper + dark * 10 + hour;");
        x.hours(2);
        Says.eq("it was lit as the hour began", x.flat(1, 2), 0);
        Says.eq("and is not now", x.flat(1, 1), 0);
        Says.eq("the other one is dark for two", x.flat(2, 2), 2);
        Says.eq("quarrels of the other one, by dark as the hours began", x.count(5), 3 + 14);
        x.hours(1);
        Says.eq("dark for an hour", x.flat(1, 2), 1);
        Says.eq("quarrels of both", x.count(5), 3 + 14 + 6 + 25);
        x.mend(0);
        Says.eq("lit, and as the hour began it was not", x.flat(1, 2), 1);
        x.hours(1);
        Says.eq("dark for none", x.flat(1, 2), 0);
        Says.eq("no quarrels of a lit one", x.count(5), 3 + 14 + 6 + 25 + 36);
        Says.eq("flat 0 is never dark", x.flat(0, 2), 0);
        FuseTreaty y = Says.with("flat m 0; flat a 0; quarrel = 99;", 10100);
        Says.eq("quarrels", y.count(5), 999900);
        y.hours(1);
        Says.eq("just as many as there can be", y.count(5), 999999);
        y.hours(1);
        Says.eq("no more", y.count(5), 999999);
        FuseTreaty z = Says.with("flat m 0; flat a 0; flat b 0; flat c 0; flat d 0; flat e 0; flat f 0; quarrel = 99;", 1683);
        Says.eq("quarrels of six", z.count(5), 999702);
        z.hours(1);
        Says.eq("all together", z.count(5), 999999);
        Says.eq("dark goes on", z.flat(6, 2), 1684);
    }

    private static void older() {
        Says.says("WIRES that did not go are an hour older (999 at most).");
        FuseTreaty x = Says.with("flat m 0; flat a 0; flat b 0; wire m a 1; wire m b 1; use u a 2 3 3; use v b 1 0 23; costs = age - 900;", 3);
        Says.eq("age", x.wire(0, 4), 3);
        x.hours(1);
        Says.eq("the one that went", x.wire(0, 4), 3);
        Says.eq("the one that did not", x.wire(1, 4), 4);
        for (int i = 0; i < 13; i++) x.hours(72);
        x.hours(58);
        Says.eq("age 998", x.wire(1, 4), 998);
        x.hours(1);
        Says.eq("age 999", x.wire(1, 4), 999);
        x.hours(1);
        Says.eq("no older", x.wire(1, 4), 999);
        x.hours(72);
        Says.eq("no older", x.wire(1, 4), 999);
        Says.eq("costs by it", x.wire(1, 7), 99);
    }

    private static void nextHour() {
        Says.says("It is the next hour.");
        FuseTreaty x = Says.with(Says.PAIR);
        for (int i = 1; i <= 50; i++) {
            Says.eq("hours(1)", x.hours(1), i);
            Says.eq("count(3)", x.count(3), i);
        }
    }

    private static void agreed() {
        Says.says("By hand: a USE is agreed, or no more;");
        FuseTreaty x = Says.with(Says.PAIR + "coins 0;");
        x.agree(0, false);
        x.hours(2);
        Says.eq("no more: it pays nothing", x.count(4), 0);
        x.agree(0, true);
        x.hours(2);
        Says.eq("agreed: it pays", x.count(4), 10);
        Says.eq("it cost nothing, and no hour", x.count(3), 4);
    }

    private static void mended() {
        Says.says("a WIRE that is GONE is MENDED: whole, age 0, not PINNED, for what COSTS tells;");
        FuseTreaty x = Says.with(Says.PAIR + "goes = age - 3; costs = rating + age; coins 14; pays = 0;");
        x.thicken(0);
        x.pin(0, true);
        x.hours(2);
        x.pin(0, false);
        x.hours(3);
        Says.eq("gone", x.count(6), 1);
        Says.eq("costs now", x.wire(0, 7), 10);
        Says.eq("not so many coins", x.mend(0), -2);
        FuseTreaty y = Says.with(Says.PAIR + "goes = age - 3; costs = rating + age; coins 9; pays = 0;", 5);
        Says.eq("gone", y.count(6), 1);
        Says.eq("mended for rating 5 and age 4", y.mend(0), 0);
        Says.eq("whole", y.wire(0, 3), 1);
        Says.eq("age 0", y.wire(0, 4), 0);
        Says.eq("not pinned", y.wire(0, 5), 0);
        Says.eq("its rating stays", y.wire(0, 2), 5);
        Says.eq("no pins", y.count(14), 0);
        FuseTreaty others = Says.with("flat m 0; flat a 0; flat b 0; flat c 0; wire m a 5; wire m b 5; wire m c 5; use u b 6 0 0;");
        others.pin(0, true);
        others.pin(2, true);
        others.hours(1);
        Says.eq("gone", others.count(6), 2);
        Says.eq("mended", others.mend(1), 101);
        Says.eq("the others are pinned still", others.count(14), 5);
        y.hours(4);
        Says.eq("whole for four hours", y.count(6), 0);
        y.hours(1);
        Says.eq("then it goes again", y.count(6), 1);
    }

    private static void thickened() {
        Says.says("a whole one is THICKENED: RATING 1 more (99 at most), for what COSTS tells;");
        FuseTreaty x = Says.with("flat m 0; flat a 0; wire m a 97; costs = 100 - rating; coins 6;");
        Says.eq("for 3", x.thicken(0), 3);
        Says.eq("rating", x.wire(0, 2), 98);
        Says.eq("for 2", x.thicken(0), 1);
        Says.eq("rating", x.wire(0, 2), 99);
        Says.eq("99 at most", x.thicken(0), -2);
        Says.eq("rating", x.wire(0, 2), 99);
        Says.eq("coins", x.count(4), 1);
        FuseTreaty y = Says.with(Says.PAIR + "goes = load - rating + 1; costs = 0;");
        Says.eq("it would go", y.wire(0, 8), 1);
        y.pin(0, true);
        y.hours(2);
        y.thicken(0);
        Says.eq("its age stays", y.wire(0, 4), 2);
        Says.eq("its pin stays", y.wire(0, 5), 1);
        y.pin(0, false);
        Says.eq("it would not go now", y.wire(0, 8), 0);
    }

    private static void pinned() {
        Says.says("a whole one is PINNED, or the pin taken;");
        FuseTreaty x = Says.with(Says.PAIR + "goes = 1; coins 0; pays = 0;");
        x.pin(0, true);
        x.hours(72);
        Says.eq("it stays", x.count(6), 0);
        Says.eq("pinned", x.count(14), 1);
        x.pin(0, false);
        Says.eq("the pin is taken", x.count(14), 0);
        x.hours(1);
        Says.eq("it goes", x.count(6), 1);
        Says.eq("it cost nothing", x.count(4), 0);
    }

    private static void hoursGoBy() {
        Says.says("HOURS go by.");
        String text = Says.SQUARE + "quarrel = temper + dark; surge 30 3; seed 8; costs = age;";
        FuseTreaty x = Says.with(text);
        FuseTreaty y = Says.with(text);
        x.hours(72);
        for (int i = 0; i < 72; i++) y.hours(1);
        Says.eq("72 hours at once can be undone at once", x.count(10), 1);
        Says.eq("one by one, 40 can", y.count(10), 40);
        for (FuseTreaty z : new FuseTreaty[] {x, y}) {
            z.hold(0);
            z.restore(0);
        }
        Says.alike("as many at once are as many one by one", Says.all(x), Says.all(y));
    }
}
