/** The sentences of parts III and IV: what would be, and what is TOLD. */
final class ForesightBounds {
    private static final int NONE = FuseTreaty.NONE;
    private static final int NOT_SO = -2;

    private ForesightBounds() { }

    static void run() {
        nothingHappens();
        peak();
        first();
        together();
        when();
        thick();
        cut();
        share();
        without();
        needed();
        hottest();
        clash();
        inHours();
        year();
        told();
        went();
        ask();
    }

    private static FuseTreaty busy() {
        FuseTreaty x = Says.with(Says.SQUARE + "costs = rating + age; quarrel = temper + dark; surge 30 2; seed 5; coins 70;");
        x.hours(3);
        x.hold(1);
        x.hours(2);
        x.pin(2, true);
        x.agree(3, false);
        x.thicken(2);
        x.tell(4, true);
        x.tell(1, false);
        return x;
    }

    private static void nothingHappens() {
        Says.says("What would be (nothing happens, no SURGES but in HOURS).");
        Says.onlyAsks(ForesightBounds::busy, "peak(2, 48, 0)", x -> x.peak(2, 48, 0));
        Says.onlyAsks(ForesightBounds::busy, "peak(2, 48, 1)", x -> x.peak(2, 48, 1));
        Says.onlyAsks(ForesightBounds::busy, "first(0)", x -> x.first(0));
        Says.onlyAsks(ForesightBounds::busy, "first(1)", x -> x.first(1));
        Says.onlyAsks(ForesightBounds::busy, "together(1)", x -> x.together(1));
        Says.onlyAsks(ForesightBounds::busy, "when(1)", x -> x.when(1));
        Says.onlyAsks(ForesightBounds::busy, "thick(20)", x -> x.thick(20));
        Says.onlyAsks(ForesightBounds::busy, "cut(2, NONE)", x -> x.cut(2, NONE));
        Says.onlyAsks(ForesightBounds::busy, "share(2, 2)", x -> x.share(2, 2));
        Says.onlyAsks(ForesightBounds::busy, "without(2)", x -> x.without(2));
        Says.onlyAsks(ForesightBounds::busy, "needed()", x -> x.needed());
        Says.onlyAsks(ForesightBounds::busy, "hottest(0)", x -> x.hottest(0));
        Says.onlyAsks(ForesightBounds::busy, "clash(1, 2)", x -> x.clash(1, 2));
        for (int what = 0; what < 3; what++) {
            int asked = what;
            Says.onlyAsks(ForesightBounds::busy, "then(72, " + what + ")", x -> x.then(72, asked));
        }
        Says.onlyAsks(ForesightBounds::busy, "litIn(4, 72)", x -> x.litIn(4, 72));
        Says.onlyAsks(ForesightBounds::busy, "year(72, 20)", x -> x.year(72, 20));
        Says.onlyAsks(ForesightBounds::busy, "went(2, 1)", x -> x.went(2, 1));
        Says.onlyAsks(ForesightBounds::busy, "ask(2)", x -> x.ask(2));
        FuseTreaty x = Says.with(Says.PAIR + "use v a 5 0 0; surge 100 9;");
        x.agree(1, false);
        Says.eq("no surges in peak", x.peak(0, 48, 0), 5);
        Says.eq("no surges in first", x.first(0), NOT_SO);
        Says.eq("no surges in together", x.together(0), 5);
        Says.eq("no surges in when", x.when(0), 0);
        Says.eq("no surges in thick", x.thick(1), NOT_SO);
        Says.eq("no surges in hottest", x.hottest(1), 0);
        Says.eq("surges in hours", x.then(1, 2), 1);
        Says.eq("surges in hours", x.litIn(1, 1), 0);
        Says.eq("surges in hours", x.year(1, 20), 0);
        FuseTreaty y = Says.with("flat m 0; flat a 0; wire m a 5; use u a 3 0 0; use v a 2 0 0; surge 100 9;");
        Says.eq("no surges in clash", y.clash(0, 1), 0);
        Says.eq("no surges in what would go", y.wire(0, 8), 0);
    }

    private static void peak() {
        Says.says("PEAK of a WIRE for n hours (1 .. 48), this one the first, WIRES that go being GONE from the next one on:"
            + " its greatest LOAD; the first of these hours in which it is so.");
        String house = "flat m 0; flat a 0; wire m a 99; use u a 3 0 23; use v a 4 5 5; use w a 4 7 7; use x a 6 23 23;";
        FuseTreaty x = Says.with(house);
        Says.eq("1 hour", x.peak(0, 1, 0), 3);
        Says.eq("1 hour", x.peak(0, 1, 1), 0);
        Says.eq("5 hours", x.peak(0, 5, 0), 3);
        Says.eq("6 hours", x.peak(0, 6, 0), 7);
        Says.eq("6 hours", x.peak(0, 6, 1), 5);
        Says.eq("8 hours: the first in which it is so", x.peak(0, 8, 1), 5);
        Says.eq("23 hours", x.peak(0, 23, 0), 7);
        Says.eq("24 hours", x.peak(0, 24, 0), 9);
        Says.eq("24 hours", x.peak(0, 24, 1), 23);
        Says.eq("48 hours", x.peak(0, 48, 1), 23);
        x.hours(5);
        Says.eq("this one the first", x.peak(0, 1, 0), 7);
        Says.eq("this one the first", x.peak(0, 18, 1), 0);
        Says.eq("18 more", x.peak(0, 19, 1), 18);
        FuseTreaty day = Says.with("flat m 0; flat a 0; wire m a 99; use u a 3 22 22;", 24);
        Says.eq("nothing in it", day.peak(0, 22, 0), 0);
        Says.eq("nothing in it: this hour", day.peak(0, 22, 1), 0);
        Says.eq("the 23rd hour", day.peak(0, 23, 0), 3);
        Says.eq("the 23rd hour", day.peak(0, 23, 1), 22);
        FuseTreaty late = Says.with("flat m 0; flat a 0; flat b 0; wire m a 1; wire m b 99; wire a b 99; use u a 2 23 23; use v a 1 0 22;"
            + "goes = if load < 2 then 0 else if day < 1 then 0 else load - rating;");
        Says.eq("47 hours", late.peak(0, 47, 0), 2);
        Says.eq("it goes in the 48th hour, and is in no other wire in it", late.peak(1, 48, 0), 0);
        late.hours(1);
        Says.eq("not within 47", late.peak(1, 47, 0), 0);
        Says.eq("in the next one it is", late.peak(1, 48, 0), 1);
        Says.eq("in the next one it is", late.peak(1, 48, 1), 47);
        Says.eq("in the next one it is", late.peak(2, 48, 0), 1);
        FuseTreaty gone = Says.with("flat m 0; flat a 0; flat b 0; wire m a 5; wire m b 9; wire a b 9; use u a 6 2 3; use v b 1 2 2;");
        Says.eq("ahead of its going", gone.peak(1, 3, 0), 1);
        Says.eq("from the next one on", gone.peak(1, 4, 0), 6);
        Says.eq("from the next one on", gone.peak(1, 4, 1), 3);
        Says.eq("its own load, as it goes", gone.peak(0, 48, 0), 6);
        Says.eq("its own load, as it goes", gone.peak(0, 48, 1), 2);
        gone.hours(3);
        Says.eq("one that is gone", gone.peak(0, 48, 0), 0);
        Says.eq("one that is gone", gone.peak(0, 48, 1), 0);
        FuseTreaty pinned = Says.with("flat m 0; flat a 0; wire m a 5; use u a 6 2 2; use v a 9 4 4;");
        Says.eq("it goes ahead of its greatest load", pinned.peak(0, 48, 0), 6);
        pinned.pin(0, true);
        Says.eq("pinned, it does not", pinned.peak(0, 48, 0), 9);
        peakRefused();
    }

    private static void peakRefused() {
        for (int n : new int[] {0, -1, 49, Says.MIN, Says.MAX}) {
            Says.refused(ForesightBounds::busy, "peak(0, " + n + ", 0)", x -> x.peak(0, n, 0), NONE);
        }
    }

    /** One wire that goes in a given hour, counted on, and not ahead of it. */
    private static String goesIn(int hour) {
        return "flat m 0; flat a 0; wire m a 5; use u a 1 0 23; goes = if hour + day * 24 < " + hour + " then 0 else 1;";
    }

    private static void first() {
        Says.says("FIRST: behind how many HOURS (1 .. 200) a WIRE is GONE that is not now; which, of one hour the first.");
        Says.eq("in this hour", Says.with(goesIn(0)).first(0), 1);
        Says.eq("in the next hour", Says.with(goesIn(1)).first(0), 2);
        Says.eq("in the 200th hour", Says.with(goesIn(199)).first(0), 200);
        Says.eq("in the 200th hour", Says.with(goesIn(199)).first(1), 0);
        Says.eq("in the 201st hour", Says.with(goesIn(200)).first(0), NOT_SO);
        Says.eq("in the 201st hour", Says.with(goesIn(200)).first(1), NOT_SO);
        Says.eq("an hour later it is the 200th", Says.with(goesIn(200), 1).first(0), 200);
        FuseTreaty x = Says.with("flat m 0; flat a 0; flat b 0; flat c 0; wire m a 9; wire m b 5; wire m c 5; use u b 6 2 2; use v c 6 2 3; use w a 10 4 4;");
        Says.eq("two of one hour", x.first(0), 3);
        Says.eq("of one hour the first", x.first(1), 1);
        x.hours(3);
        Says.eq("gone", x.count(6), 6);
        Says.eq("one that is not now", x.first(0), 2);
        Says.eq("one that is not now", x.first(1), 0);
        x.mend(2);
        Says.eq("sooner", x.first(0), 1);
        Says.eq("sooner", x.first(1), 2);
        x.pin(2, true);
        Says.eq("not by one that is pinned", x.first(1), 0);
        Says.eq("as many hours, and it is so", Says.with(goesIn(70), 70).count(6), 0);
        Says.eq("as many hours, and it is so", Says.with(goesIn(70), 71).count(6), 1);
        Says.eq("no wires", new FuseTreaty().first(0), NOT_SO);
    }

    private static void together() {
        Says.says("TOGETHER: the set of USES (agreed or not, their hour or not) of LIT FLATS that, all ON now and no others, have no WIRE go,"
            + " and PAY most; of alike ones the least bits; how much.");
        String house = "flat m 0; flat a 0; flat b 0; wire m a 10; use u a 6 5 5; use v a 5 0 0; use w a 4 7 7; use x b 19 0 23; use y m 2 9 9;";
        FuseTreaty x = Says.with(house);
        Says.eq("10 in 10, and what flat 0 uses", x.together(0), 12);
        Says.eq("which", x.together(1), 1 + 4 + 16);
        for (int u = 0; u < 5; u++) x.agree(u, false);
        Says.eq("agreed or not", x.together(0), 12);
        Says.eq("no others than lit ones", x.together(1), 21);
        Says.eq("11 in 10 goes", Says.with(house.replace("x b 19", "x a 1")).together(1), 1 + 4 + 16);
        FuseTreaty y = Says.with("flat m 0; flat a 0; wire m a 10; use u a 6 0 0; use v a 5 0 0; use w a 5 0 0; use x a 6 0 0; pays = 4;");
        Says.eq("v and w pay 8", y.together(0), 8);
        Says.eq("v and w", y.together(1), 6);
        FuseTreaty z = Says.with("flat m 0; flat a 0; wire m a 5; use u a 6 0 0; use v a 5 0 0; use w a 5 0 0; use x a 4 0 0; pays = 4;");
        Says.eq("of alike ones the least bits", z.together(1), 2);
        FuseTreaty none = Says.with("flat m 0; use u m 1 0 23; pays = 0;");
        Says.eq("what pays nothing is left out", none.together(1), 0);
        Says.eq("what pays nothing", none.together(0), 0);
        FuseTreaty all = Says.with("flat m 0; flat a 0; wire m a 99; use o a 1 0 0; use p a 1 0 0; use q a 1 0 0; use r a 1 0 0; use s a 1 0 0;"
            + "use t a 1 0 0; use u a 1 0 0; use v a 1 0 0; pays = 9999;");
        Says.eq("all eight", all.together(1), 255);
        Says.eq("all eight, held to 99 each", all.together(0), 792);
        FuseTreaty few = Says.with("flat m 0; flat a 0; wire m a 5; use u a 1 0 0; use v a 2 0 0; goes = if load < 3 then 1 else 0;");
        Says.eq("those that go alone are fine together", few.together(1), 3);
        FuseTreaty dark = Says.with("flat m 0; flat a 0; use u a 9 0 0; use v m 1 0 0; use w a 9 0 0;");
        Says.eq("of lit flats: it pays 1", dark.together(0), 1);
        Says.eq("of lit flats", dark.together(1), 2);
        Says.eq("no uses", new FuseTreaty().together(0), 0);
        Says.eq("no uses", new FuseTreaty().together(1), 0);
        FuseTreaty pinned = Says.with("flat m 0; flat a 0; wire m a 5; use u a 9 0 0;");
        Says.eq("9 in 5", pinned.together(0), 0);
        pinned.pin(0, true);
        Says.eq("pinned: it does not go", pinned.together(0), 9);
    }

    private static void when() {
        Says.says("WHEN of a USE: the first hour of the day h, 0 on, at which it could begin, as long as it is (to hour 23 at most), agreed,"
            + " with all others as they are, so that in those hours, WIRES, day and all else as now, none goes"
            + " (one whose FLAT is not LIT is not ON in them, and adds nothing).");
        String house = "flat m 0; flat a 0; wire m a 10; use u a 6 12 14; use v a 5 ";
        Says.eq("from 0", Says.with(house + "3 23;").when(0), 0);
        Says.eq("not in the last hour", Says.with(house + "2 23;").when(0), NOT_SO);
        Says.eq("from 1", Says.with(house + "0 0;").when(0), 1);
        Says.eq("till 23", Says.with(house + "0 20;").when(0), 21);
        Says.eq("to hour 23 at most", Says.with(house + "0 21;").when(0), NOT_SO);
        Says.eq("between", Says.with("flat m 0; flat a 0; wire m a 10; use u a 6 12 14; use v a 5 0 3; use w a 5 6 9; use x a 5 13 23;").when(0), 10);
        Says.eq("all day long", Says.with("flat m 0; flat a 0; wire m a 10; use u a 6 0 23;").when(0), 0);
        Says.eq("all day long but for an hour", Says.with("flat m 0; flat a 0; wire m a 10; use u a 6 0 23; use v a 5 23 23;").when(0), NOT_SO);
        Says.eq("23 hours", Says.with("flat m 0; flat a 0; wire m a 10; use u a 6 0 22; use v a 5 0 0;").when(0), 1);
        Says.eq("23 hours", Says.with("flat m 0; flat a 0; wire m a 10; use u a 6 0 22; use v a 5 1 1;").when(0), NOT_SO);
        Says.eq("one hour", Says.with("flat m 0; flat a 0; wire m a 10; use u a 6 0 0; use v a 5 0 22;").when(0), 23);
        FuseTreaty x = Says.with(house + "0 20;");
        x.agree(0, false);
        Says.eq("agreed", x.when(0), 21);
        x.agree(1, false);
        Says.eq("others as they are", x.when(0), 0);
        x.hours(30);
        Says.eq("whatever hour it is", x.when(0), 0);
        FuseTreaty z = Says.with("flat m 0; flat a 0; flat b 0; wire m a 5; use u a 6 7 8; use v b 19 0 9; use w b 1 0 23;");
        Says.eq("in the dark it adds nothing, but others go in hours 7 and 8", z.when(1), 9);
        Says.eq("in the dark, and as long as a day", z.when(2), NOT_SO);
        z.agree(0, false);
        Says.eq("in the dark, and as long as a day", z.when(2), 0);
        FuseTreaty day = Says.with("flat m 0; flat a 0; wire m a 5; use u a 1 0 0; goes = if hour < 20 then day * 30 + age - 56 else 0;");
        day.hours(26);
        Says.eq("day and age as now: 30 and 26 go not", day.when(0), 0);
        day.hours(1);
        Says.eq("day and age as now: 30 and 27 go", day.when(0), 20);
        day.pin(0, true);
        Says.eq("pinned", day.when(0), 0);
        FuseTreaty gone = Says.with("flat m 0; flat a 0; flat b 0; wire m a 5; wire m b 5; use u a 6 0 0; use v b 3 0 0; use w b 3 5 5;", 1);
        Says.eq("wires as now: what is gone cannot go", gone.when(0), 0);
        Says.eq("nor with another wire's hours", gone.when(1), 0);
    }

    private static void thick() {
        Says.says("THICK: the WIRE by which, THICKENED by k (1 .. 20; 99 at most), FIRST is latest (none goes: latest of all), later than now;"
            + " of alike ones the first.");
        String three = "flat m 0; flat a 0; flat b 0; flat c 0; wire m a 5; wire m b 6; wire m c 7; use u a ";
        FuseTreaty x = Says.with(three + "6 3 3; use v b 7 9 9;");
        Says.eq("first", x.first(0), 4);
        Says.eq("by one: later", x.thick(1), 0);
        FuseTreaty two = Says.with(three + "7 3 3; use v b 7 9 9;");
        Says.eq("by one: not later", two.thick(1), NOT_SO);
        Says.eq("by two: later", two.thick(2), 0);
        FuseTreaty top = Says.with("flat m 0; flat a 0; wire m a 5; use u a 19 3 3; use v a 6 3 3;");
        Says.eq("by 19: 25 in 24", top.thick(19), NOT_SO);
        Says.eq("by 20: 25 in 25", top.thick(20), 0);
        FuseTreaty both = Says.with("flat m 0; flat a 0; flat b 0; wire m a 5; wire a b 5; use u b 6 3 3;");
        Says.eq("both go: none helps", both.thick(20), NOT_SO);
        Says.eq("none goes: not later than now", Says.with(three + "5 3 3;").thick(20), NOT_SO);
        FuseTreaty worn = Says.with("flat m 0; flat a 0; flat b 0; wire m a 5; wire m b 5; use u a 1 0 23; goes = age - rating;");
        Says.eq("first by age", worn.first(0), 7);
        Says.eq("the one that helps", worn.thick(1), 0);
        Says.eq("rating 99 already", Says.with("flat m 0; flat a 0; wire m a 99; use u a 1 0 23; goes = age - rating;").thick(20), NOT_SO);
        Says.eq("99 at most", Says.with("flat m 0; flat a 0; wire m a 98; use u a 1 0 23; goes = age - rating;").thick(20), 0);
        String edge = "flat m 0; flat a 0; wire m a 90; use u a 1 0 23; goes = if rating < 100 then 1 else 0;";
        Says.eq("99 at most: never 100", Says.with(edge).thick(20), NOT_SO);
        Says.eq("99 it is", Says.with(edge.replace("100", "99")).thick(20), 0);
        Says.eq("99 it is", Says.with(edge.replace("100", "99")).thick(9), 0);
        Says.eq("98 it is", Says.with(edge.replace("100", "99")).thick(8), NOT_SO);
        FuseTreaty later = Says.with("flat m 0; flat a 0; wire m a 5; use u a 1 0 23; goes = if age < rating * 39 then 0 else 1;");
        Says.eq("the 196th hour", later.first(0), 196);
        Says.eq("none goes in 200: latest of all", later.thick(1), 0);
        FuseTreaty last = Says.with("flat m 0; flat a 0; wire m a 5; use u a 1 0 23; goes = if age < rating + 194 then 0 else 1;");
        Says.eq("the 200th hour", last.first(0), 200);
        Says.eq("none goes in 200: later than now", last.thick(1), 0);
        Says.eq("none goes now", Says.with("flat m 0; flat a 0; wire m a 6; use u a 1 0 23; goes = if age < rating + 194 then 0 else 1;").thick(1), NOT_SO);
        FuseTreaty ways = Says.with("flat m 0; flat a 0; flat b 0; flat c 0; wire m a 5; wire m b 5; wire a c 9; wire b c 9; use u c 6 3 4;");
        Says.eq("one way goes, then the other", ways.first(1), 0);
        Says.eq("the one that goes first helps", ways.thick(1), 0);
        FuseTreaty pinned = Says.with("flat m 0; flat a 0; flat b 0; wire m a 5; wire a b 5; use u b 6 3 3;");
        pinned.pin(0, true);
        Says.eq("one of two is pinned: the other helps", pinned.thick(1), 1);
        thickAlike();
    }

    /** Only one that goes first, and alone, can help: so of several the first is always the only one. */
    private static void thickAlike() {
        FuseTreaty x = Says.with("flat m 0; flat a 0; flat b 0; wire m a 5; wire a b 5; use u b 1 0 23;"
            + "goes = if which < 1 then age - 3 - rating else age - 2 - rating;");
        Says.eq("wire 1 is first", x.first(1), 1);
        Says.eq("it helps", x.thick(1), 1);
        Says.eq("by 20 it helps no more than till wire 0 goes", x.thick(20), 1);
        FuseTreaty row = Says.with("flat m 0; flat a 0; flat b 0; flat c 0; wire m a 9; wire a b 9; wire b c 9; use u c 1 0 23;"
            + "goes = if age < 8 + rating then 0 else 1;");
        Says.eq("all go at once", row.first(0), 18);
        Says.eq("none helps alone", row.thick(20), NOT_SO);
    }

    private static void cut() {
        Says.says("CUT of a FLAT: the fewest WIRES (0 .. 3) whose going now would leave it not LIT; of alike ones the first by the least number, then the next one.");
        String star = "flat m 0; flat a 0; flat b 0; flat c 0; flat d 0; flat e 0; wire d a 1; wire d b 1; wire d c 1; wire m a 1; wire m b 1; wire m c 1;";
        FuseTreaty x = Says.with(star);
        Says.eq("three", x.cut(4, NONE), 3);
        for (int i = 0; i < 3; i++) Says.eq("by the least numbers", x.cut(4, i), i);
        Says.eq("two", x.cut(1, NONE), 2);
        Says.eq("the first by the least number", x.cut(1, 0), 0);
        Says.eq("then the next one", x.cut(1, 1), 3);
        Says.eq("none: it is not lit", x.cut(5, NONE), 0);
        Says.eq("none: it is not lit", x.cut(5, 0), NONE);
        FuseTreaty y = Says.with(star + "wire m d 1;");
        Says.eq("four are too many", y.cut(4, NONE), NOT_SO);
        Says.eq("four are too many", y.cut(4, 0), NOT_SO);
        Says.eq("flat 0 is always lit", y.cut(0, NONE), NOT_SO);
        FuseTreaty one = Says.with("flat m 0; flat a 0; flat b 0; wire m a 1; wire a b 1;");
        Says.eq("one", one.cut(2, NONE), 1);
        Says.eq("of alike ones the first", one.cut(2, 0), 0);
        Says.eq("not two", one.cut(2, 1), NONE);
        FuseTreaty two = Says.with("flat m 0; flat a 0; flat b 0; flat c 0; wire m a 1; wire a c 1; wire m b 1; wire b c 1;");
        Says.eq("the least number", two.cut(3, 0), 0);
        Says.eq("then the least next one", two.cut(3, 1), 2);
        FuseTreaty gone = Says.with(star + "use u d 1 0 23; goes = if which < 1 then 1 else 0;", 1);
        Says.eq("gone", gone.count(6), 1);
        Says.eq("now two do", gone.cut(4, NONE), 2);
        Says.eq("none of those gone", gone.cut(4, 0), 1);
        Says.eq("then the next", gone.cut(4, 1), 2);
    }

    private static void share() {
        Says.says("SHARE of a FLAT in a WIRE: how much of its LOAD now is its USES'.");
        FuseTreaty x = Says.with(Says.SQUARE, 4);
        int[][] shares = {{0, 0, 0, 0, 0}, {5, 0, 0, 0, 0}, {7, 7, 0, 0, 0}, {0, 0, 0, 0, 0}, {1, 1, 0, 0, 1}};
        for (int w = 0; w < 5; w++) {
            int load = 0;
            for (int f = 0; f < 5; f++) {
                Says.eq("share(" + f + ", " + w + ")", x.share(f, w), shares[f][w]);
                load += x.share(f, w);
            }
            Says.eq("together they are the load of wire " + w, load, x.wire(w, 6));
        }
        x.agree(1, false);
        Says.eq("one of two uses", x.share(2, 1), 4);
        x.hours(3);
        Says.eq("no use on", x.share(2, 1), 0);
    }

    private static void without() {
        Says.says("WITHOUT a WIRE: FLATS that were not LIT, were it GONE.");
        FuseTreaty x = Says.with("flat m 0; flat a 0; flat b 0; flat c 0; flat d 0; wire m a 1; wire a b 1; wire b m 1; wire b c 1; use u c 1 0 23;"
            + "goes = if which < 1 then 0 else if 1 < which then 0 else 1;");
        Says.eq("another way is left", x.without(0), 16);
        Says.eq("another way is left", x.without(2), 16);
        Says.eq("no other way", x.without(3), 8 + 16);
        FuseTreaty y = Says.with(Says.PAIR + "goes = 1;", 1);
        Says.eq("one that is gone", y.without(0), 2);
        FuseTreaty row = Says.with("flat a 0;flat b 0;flat c 0;flat d 0;flat e 0;flat f 0;flat g 0;wire a b 9;wire b c 9;wire c d 9;wire d e 9;wire e f 9;wire f g 9;");
        Says.eq("all but flat 0", row.without(0), 126);
        Says.eq("the last one", row.without(5), 64);
    }

    private static void needed() {
        Says.says("NEEDED: whole WIRES by whose going now a FLAT that is LIT would not be.");
        Says.eq("no wires", new FuseTreaty().needed(), 0);
        Says.eq("each of a row", Says.with("flat a 0;flat b 0;flat c 0;wire a b 9;wire b c 9;").needed(), 3);
        Says.eq("none of a ring", Says.with("flat a 0;flat b 0;flat c 0;wire a b 9;wire b c 9;wire c a 9;").needed(), 0);
        Says.eq("none between those not lit", Says.with("flat a 0;flat b 0;flat c 0;wire b c 9;").needed(), 0);
        FuseTreaty x = Says.with("flat a 0;flat b 0;flat c 0;wire a b 9;wire b c 9;wire c a 9;use u b 1 0 23;goes = if which < 1 then 1 else 0;", 1);
        Says.eq("a ring no more: whole ones", x.needed(), 6);
    }

    private static void hottest() {
        Says.says("HOTTEST: of whole WIRES the one whose LOAD now is most above its RATING, or least below, of alike ones the first; by how much.");
        String house = "flat m 0; flat a 0; flat b 0; flat c 0; wire m a 5; wire m b 6; wire m c 6; use u a 6 1 1; use v b 8 1 1; use w c 8 1 2;";
        FuseTreaty x = Says.with(house);
        Says.eq("least below", x.hottest(0), 0);
        Says.eq("least below", x.hottest(1), -5);
        x.hours(1);
        Says.eq("most above, of alike ones the first", x.hottest(0), 1);
        Says.eq("most above", x.hottest(1), 2);
        x.pin(2, true);
        x.hours(1);
        Says.eq("gone", x.count(6), 3);
        Says.eq("of whole ones", x.hottest(0), 2);
        Says.eq("of whole ones", x.hottest(1), 2);
        x.hours(1);
        Says.eq("below", x.hottest(1), -6);
        Says.eq("just as much", Says.with(Says.PAIR).hottest(1), 0);
        Says.eq("least of all", Says.with("flat m 0; flat a 0; wire m a 99;").hottest(1), -99);
        StringBuilder most = new StringBuilder("flat m 0; flat a 0; wire m a 1;");
        for (char c = 'p'; c < 'x'; c++) most.append("use ").append(c).append(" a 19 0 0;");
        Says.eq("most of all", Says.with(most.toString()).hottest(1), 151);
    }

    private static void clash() {
        Says.says("CLASH of two USES: how many WIRES go with just these two ON now (their hour or not), that go with none of them ON alone;"
            + " none, if one's FLAT is not LIT.");
        String house = "flat m 0; flat a 0; flat b 0; flat c 0; wire m a 10; wire a b 10; use u b 5 7 7; use v b ";
        String others = " 9 9; use w a 5 9 9; use x c 19 0 23; use y a 19 0 23; use z m 19 0 23;";
        Says.eq("10 in 10", Says.with(house + "5" + others).clash(0, 1), 0);
        Says.eq("11 in 10, in two wires", Says.with(house + "6" + others).clash(0, 1), 2);
        Says.eq("11 in 10, in one of them", Says.with(house + "6" + others).clash(1, 2), 1);
        Says.eq("that goes with one alone", Says.with(house + "11" + others).clash(0, 1), 0);
        Says.eq("that goes with the other alone", Says.with(house + "11" + others).clash(1, 0), 0);
        Says.eq("that goes with each alone", Says.with(house + "11" + others.replace("w a 5", "w a 12")).clash(1, 2), 0);
        Says.eq("one wire goes with one alone", Says.with(house + "6" + others).clash(0, 4), 0);
        Says.eq("whichever is first", Says.with(house + "6" + others).clash(1, 0), 2);
        Says.eq("one's flat is not lit", Says.with(house + "6" + others).clash(0, 3), 0);
        Says.eq("one's flat is not lit", Says.with(house + "6" + others).clash(3, 4), 0);
        Says.eq("flat 0's is in no wire", Says.with(house + "6" + others).clash(0, 5), 0);
        FuseTreaty x = Says.with(house + "6" + others);
        x.agree(0, false);
        Says.eq("just these two on", x.clash(0, 1), 2);
        x.pin(1, true);
        Says.eq("one of them pinned", x.clash(0, 1), 1);
        FuseTreaty y = Says.with("flat m 0; flat a 0; wire m a 10; use u a 1 0 0; use v a 2 0 0; goes = if load < 3 then 1 else 0;");
        Says.eq("it goes with each alone, not with both", y.clash(0, 1), 0);
        FuseTreaty dark = Says.with("flat m 0; flat a 0; flat b 0; wire m a 10; use u a 9 0 0; use v b 9 0 0; goes = if load < 9 then 0 else if hour < 1 then 0 else 1;");
        Says.eq("one's flat is not lit: none", dark.clash(0, 1), 0);
    }

    private static void inHours() {
        Says.says("IN n HOURS (0 .. 72): COINS more; QUARRELS more; WIRES GONE; whether a FLAT is LIT.");
        String text = Says.SQUARE + "quarrel = temper + dark; surge 25 3; seed 61; coins 20;";
        for (int n : new int[] {0, 1, 2, 5, 23, 24, 71, 72}) {
            FuseTreaty x = Says.with(text);
            FuseTreaty y = Says.with(text);
            for (FuseTreaty z : new FuseTreaty[] {x, y}) z.hours(7);
            int coins = y.count(4);
            int quarrels = y.count(5);
            y.hours(n);
            Says.eq("coins more in " + n, x.then(n, 0), y.count(4) - coins);
            Says.eq("quarrels more in " + n, x.then(n, 1), y.count(5) - quarrels);
            Says.eq("wires gone in " + n, x.then(n, 2), Integer.bitCount(y.count(6)));
            for (int f = 0; f < 5; f++) Says.eq("flat " + f + " in " + n, x.litIn(f, n), y.flat(f, 1));
        }
        FuseTreaty rich = Says.with("flat m 0; flat a 0; use u m 1 0 23; use v m 1 0 23; use w m 1 0 23; use x m 1 0 23; use y m 1 0 23;"
            + "use z m 1 0 23; use p m 1 0 23; use q m 1 0 23; pays = 99; coins 999; quarrel = 99;", 124);
        Says.eq("to the most", rich.then(1, 0), 792);
        Says.eq("no more than the most", rich.then(72, 0), 792);
        Says.eq("quarrels go on", rich.then(72, 1), 72 * 99);
        FuseTreaty pinned = Says.with(goesIn(0));
        Says.eq("it goes", pinned.then(1, 2), 1);
        Says.eq("it goes", pinned.litIn(1, 1), 0);
        pinned.pin(0, true);
        Says.eq("pinned, it does not", pinned.then(72, 2), 0);
        Says.eq("pinned, it does not", pinned.litIn(1, 72), 1);
        for (int n : new int[] {-1, 73}) {
            Says.refused(ForesightBounds::busy, "then(" + n + ", 0)", x -> x.then(n, 0), NONE);
            Says.refused(ForesightBounds::busy, "litIn(0, " + n + ")", x -> x.litIn(0, n), NONE);
        }
    }

    private static void year() {
        Says.says("YEAR by s SEEDS (1 .. 20) from the text's SEED on: in how many of them no WIRE more is GONE in n HOURS (0 .. 72).");
        for (int seed : new int[] {0, 4711, 9979, 9980, 9981, 9999}) {
            for (int from : new int[] {0, 30}) {
                FuseTreaty x = Says.with(Says.PAIR + "surge 3 1; seed " + seed + "; goes = if hour + day * 24 < " + from + " then 0 else load - rating;", from);
                for (int s : new int[] {1, 2, 19, 20}) {
                    for (int n : new int[] {0, 1, 24, 71, 72}) {
                        int calm = 0;
                        for (int k = seed; k < seed + s; k++) {
                            boolean none = true;
                            for (int h = from; h < from + n; h++) none &= HoursBounds.lot(100, k, 4 * h) >= 3;
                            calm += none ? 1 : 0;
                        }
                        Says.eq("year(" + n + ", " + s + ") from seed " + seed + " in hour " + from, x.year(n, s), calm);
                    }
                }
            }
        }
        FuseTreaty y = Says.with(goesIn(71));
        Says.eq("it goes in the 72nd hour", y.year(72, 20), 0);
        Says.eq("not in 71", y.year(71, 20), 20);
        FuseTreaty gone = Says.with(goesIn(3), 4);
        Says.eq("no wire more", gone.year(72, 20), 20);
        y.pin(0, true);
        Says.eq("pinned, it does not", y.year(72, 20), 20);
        for (int n : new int[] {-1, 73}) Says.refused(ForesightBounds::busy, "year(" + n + ", 1)", x -> x.year(n, 1), NONE);
        for (int s : new int[] {0, -1, 21}) Says.refused(ForesightBounds::busy, "year(1, " + s + ")", x -> x.year(1, s), NONE);
    }

    private static final String TREE = "flat m 0; flat a 0; flat b 0; flat c 0; flat d 0; wire m a 1; wire a b 1; wire b c 1; wire m d 1;";

    private static void told() {
        Says.says("TOLD: that, one whole WIRE having gone just now, a FLAT is LIT, or is not; 20 at most, numbered from 0 on; KNOWN by k: the first k.");
        FuseTreaty x = Says.with(TREE);
        for (int i = 0; i < 20; i++) Says.eq("its number", x.tell(i == 0 ? 2 : 4, i < 10 && i > 0), i);
        Says.eq("a 21st", x.tell(4, true), NONE);
        Says.eq("there are 20", x.count(11), 20);
        Says.eq("none known", x.went(0, 1), 15);
        Says.eq("the first: c is not lit behind a, nor behind b", x.went(1, 1), 3);
        Says.eq("the second: d is lit", x.went(2, 1), 3);
        Says.eq("the first ten", x.went(10, 1), 3);
        Says.eq("the eleventh: d is not lit", x.went(11, 1), 0);
        Says.eq("all 20", x.went(20, 1), 0);
        Says.eq("21 are not known", x.went(21, 1), NONE);
        Says.eq("nothing went by it", x.count(6), 0);
        x.forget();
        Says.eq("from 0 on", x.tell(0, true), 0);
    }

    private static void went() {
        Says.says("WENT: WIRES, whole now, by whose going all that is KNOWN is so: how many; which (bits).");
        FuseTreaty x = Says.with(TREE);
        Says.eq("nothing known: all whole ones", x.went(0, 0), 4);
        Says.eq("nothing known: all whole ones", x.went(0, 1), 15);
        x.tell(3, false);
        Says.eq("c is dark", x.went(1, 1), 7);
        x.tell(1, true);
        Says.eq("a is lit", x.went(2, 1), 6);
        Says.eq("a is lit", x.went(2, 0), 2);
        x.tell(2, true);
        Says.eq("b is lit", x.went(3, 1), 4);
        Says.eq("b is lit", x.went(3, 0), 1);
        x.tell(3, true);
        Says.eq("c is lit, and is not: none", x.went(4, 0), 0);
        Says.eq("c is lit, and is not: none", x.went(4, 1), 0);
        FuseTreaty dark = Says.with(TREE);
        dark.tell(0, false);
        Says.eq("flat 0 is always lit", dark.went(1, 0), 0);
        FuseTreaty gone = Says.with(TREE + "use u d 2 0 0;", 1);
        gone.tell(4, false);
        Says.eq("gone", gone.count(6), 8);
        Says.eq("one that is gone cannot go", gone.went(0, 1), 7);
        Says.eq("d is dark whichever goes", gone.went(1, 1), 7);
        gone.mend(3);
        Says.eq("whole now", gone.went(0, 1), 15);
        Says.eq("whole now", gone.went(1, 1), 8);
        Says.eq("no wires", new FuseTreaty().went(0, 1), 0);
    }

    private static void ask() {
        Says.says("ASK: the FLAT of which, once it is told, fewest are left, at worst; of alike ones the first.");
        FuseTreaty x = Says.with(TREE);
        Says.eq("m: 4; a, c: 3; b: 2; d: 3", x.ask(0), 2);
        x.tell(2, false);
        Says.eq("wires 0 and 1: a tells", x.ask(1), 1);
        x.tell(1, true);
        Says.eq("one is left, whatever is asked: the first", x.ask(2), 0);
        x.tell(1, false);
        Says.eq("none is left", x.ask(3), NOT_SO);
        FuseTreaty ring = Says.with("flat m 0; flat a 0; flat b 0; wire m a 1; wire a b 1; wire b m 1;");
        Says.eq("no answer tells anything: the first", ring.ask(0), 0);
        FuseTreaty pair = Says.with("flat m 0; flat a 0; flat b 0; wire m a 1; wire m b 1;");
        Says.eq("of alike ones the first", pair.ask(0), 1);
        Says.eq("no wires", Says.with("flat m 0;").ask(0), NOT_SO);
        Says.eq("no flats", new FuseTreaty().ask(0), NOT_SO);
    }
}
