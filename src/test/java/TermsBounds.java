/** The sentences of "Terms": texts, their tokens, what is told by them, and their FAULTS. */
final class TermsBounds {
    private static final int NONE = FuseTreaty.NONE;
    private static final String[] WORDS = {"flat", "wire", "use", "goes", "quarrel", "costs", "pays", "surge", "coins", "seed",
        "if", "then", "else", "load", "rating", "age", "hour", "day", "amps", "temper", "dark", "which"};
    private static final String[] VARS = {"load", "rating", "age", "hour", "day", "amps", "temper", "dark", "which"};
    private static final String SEVEN = "flat a 0;flat b 0;flat c 0;flat d 0;flat e 0;flat f 0;flat g 0;";
    private static final String TEN = SEVEN + "wire a b 1;wire a c 1;wire a d 1;wire a e 1;wire a f 1;wire a g 1;"
        + "wire b c 1;wire b d 1;wire b e 1;wire b f 1;";
    private static final String AB = "flat a 0;flat b 0;";
    /** What stands nowhere within a TELL but where it is asked for. */
    private static final String[] OTHERS = {"flat", "wire", "use", "goes", "pays", "surge", "seed", "then", "?", "a", "="};
    /** 400 TOKENS, all of them right. */
    private static final String FULL = "surge 0 0;".repeat(100);

    private TermsBounds() { }

    static void run() {
        objectCalls();
        textBytes();
        tokensAndBlanks();
        names();
        ints();
        signs();
        noToken();
        text();
        tell();
        law();
        sums();
        products();
        units();
        vars();
        flats();
        wires();
        uses();
        numbered();
        laws();
        surge();
        faultOrder();
        syntax();
        room();
        twice();
        name();
        wrong();
        putInPlace();
    }

    private static void objectCalls() {
        Says.says("An object is used for at most 512 calls after it has been made; what later calls answer is free.");
        FuseTreaty x = new FuseTreaty();
        for (int i = 1; i < 512; i++) Says.eq("call " + i, x.hours(72), 72 * i);
        Says.eq("the 512th call", x.hours(72), 72 * 512);
        x.hours(72);
        FuseTreaty y = new FuseTreaty();
        String text = "flat m 0;use u m 1 0 23;pays = day - 1500;";
        Texts.feed(y, text);
        y.read();
        int calls = (text.length() + 19) / 20 + 2;
        int hours = 0;
        for (; calls < 511; calls++) hours = y.hours(72);
        Says.eq("what is paid on the last day, by the 512th call", y.use(0, 6), hours / 24 - 1500);
        Says.is("as late as it can be", hours / 24 > 1500, true);
    }

    private static void textBytes() {
        Says.says("A TEXT has 2,000 bytes at most.");
        Says.right("flat a 1" + Says.blanks(1991) + ";");
        Says.right("flat a 1;" + Says.blanks(1991));
        Says.fault("flat a 1;" + Says.blanks(1990) + "?", 1, 1999);
        Says.fault("flat a 1" + Says.blanks(1992), 1, 2000);
        Says.fault("flat a 1" + Says.blanks(1991), 1, 1999);
        FuseTreaty x = new FuseTreaty();
        Texts.feed(x, "flat a 1;" + Says.blanks(1991));
        Says.eq("20 bytes more", x.feed(-1, -1, -1, -1, -1), NONE);
        Says.eq("read of 2,000 bytes", x.read(), 0);
        Says.eq("flats", x.count(0), 1);
    }

    private static void tokensAndBlanks() {
        Says.says("TOKENS, the longest that can be, with blanks (9, 10, 13, 32) between or not:");
        Says.right("flat a1;flat b2;wire a b3;use u a1 0 0;goes=if 1<2then 3else if load<4then(5)else 6;");
        Says.right("\tflat\na\r1 ;\r\n\t ");
        Says.fault("flata 1;", 1, 0);
        Says.fault("flat a 1;seed1;seedb;", 1, 15);
        Says.fault("goes = if1 < 2 then 3 elseif 1 < 2 then 3 else 4;", 1, 22);
        Says.fault("goes = 1 2;", 1, 9);
        Says.right("goes = 12;");
        Says.fault("flat a 1;flat a b 1;", 1, 16);
        Says.right("flat a 1;flat ab 1;flat abc 1;");
        for (int b = 0; b < 256; b++) {
            boolean blank = b == 9 || b == 10 || b == 13 || b == 32;
            Says.fault((char) b + "coins 5;", blank ? 0 : 1, blank ? NONE : 0);
            boolean letter = b >= 'a' && b <= 'z';
            boolean digit = b >= '0' && b <= '9';
            Says.fault("coins" + (char) b + "5;", blank || digit ? 0 : 1, blank || digit ? NONE : letter ? 0 : 5);
            Says.fault("coins 5;" + (char) b, blank ? 0 : 1, blank ? NONE : 8);
        }
    }

    private static void names() {
        Says.says("NAMES (letters a .. z, 8 at most, none of the words in quotes),");
        Says.right("flat a 1;flat z 1;");
        Says.right("flat abcdefgh 1;");
        Says.right("flat zzzzzzzz 1;flat aaaaaaaa 1;");
        Says.fault("flat abcdefghi 1;", 1, 5);
        Says.fault("flat zzzzzzzzz 1;", 1, 5);
        Says.fault("flat " + "a".repeat(100) + " 1;", 1, 5);
        Says.right("flat aaaaaaaa 1;flat aaaaaaab 1;flat baaaaaaa 1;flat aaaaaaa 1;");
        Says.fault("flat aaaaaaab 1;flat aaaaaaaa 1;flat aaaaaaab 1;", 3, 37);
        for (String word : WORDS) {
            Says.fault("flat " + word + " 1;", 1, 5);
            Says.fault("flat a 0;use " + word + " a 1 0 0;", 1, 13);
            Says.right("flat " + word + "x 1;");
            Says.right("flat x" + word + " 1;");
            Says.right("flat " + word.substring(0, word.length() - 1) + " 1;");
        }
        for (char c : new char[] {'`', '{', '@', 'A', 'Z', '[', '_', '0', (char) 225}) Says.fault("flat " + c + " 1;", 1, 5);
    }

    private static void ints() {
        Says.says("INTS (1 to 4 digits),");
        Says.right("seed 0;");
        Says.right("seed 9999;");
        Says.right("seed 0000;");
        Says.right("goes = 9999;");
        Says.fault("seed 00000;", 1, 5);
        Says.fault("seed 10000;", 1, 5);
        Says.fault("goes = 10000;", 1, 7);
        Says.fault("goes = 9999999999;", 1, 7);
        Says.fault("seed ;", 1, 5);
        FuseTreaty x = Says.with("flat m 0; use u m 1 0 0; pays = 9999 / 0101;");
        Says.eq("9999 / 0101", x.use(0, 6), 99);
        Says.eq("coins 0042", Says.with("coins 0042;").count(4), 42);
    }

    private static void signs() {
        Says.says("SIGNS ; = + - * / < ( ) .");
        for (int b = 0; b < 256; b++) {
            boolean blank = b == 9 || b == 10 || b == 13 || b == 32;
            boolean right = b == '+' || b == '-' || b == '*' || b == '/' || b >= '0' && b <= '9';
            int place = right ? NONE : blank || b == ';' ? 7 : 6;
            Says.fault("goes=1" + (char) b + "1;", right ? 0 : 1, place);
        }
        Says.right("goes = if 1 < 2 then (3) else 4;");
        Says.fault("goes = if 1 > 2 then (3) else 4;", 1, 12);
        Says.fault("goes = if 1 <= 2 then (3) else 4;", 1, 13);
        Says.fault("goes == 1;", 1, 6);
        Says.fault("goes = 1 ++ 1;", 1, 10);
    }

    private static void noToken() {
        Says.says("A longer one, all else, is no TOKEN.");
        Says.fault("flat abcdefghi", 1, 5);
        Says.fault("abcdefghi", 1, 0);
        Says.fault("seed 12345", 1, 5);
        Says.fault("seed 1234a;", 1, 9);
        Says.fault("flat a1234 5;", 1, 11);
        Says.fault("flatflatf a 1;", 1, 0);
        Says.fault("coins 5; # none", 1, 9);
        Says.fault("coins 5; \u0000", 1, 9);
        Says.fault("coins 5; \u00ff", 1, 9);
    }

    private static void text() {
        Says.says("text: {TELL}.");
        Says.right("");
        Says.right(" ");
        Says.right("seed 1;");
        Says.right("seed 1;seed 2;seed 3;");
        Says.fault(";", 1, 0);
        Says.fault("seed 1;;", 1, 7);
        Says.eq("an empty tape", new FuseTreaty().read(), 0);
    }

    /** Each TELL ends neither too early nor too late, and has no TOKEN that is not its own. */
    private static void told(String ahead, String... tokens) {
        StringBuilder t = new StringBuilder(ahead);
        for (int i = 0; i < tokens.length; i++) {
            if (i > 0) {
                Says.fault(t.toString(), 1, t.length());
                for (String other : OTHERS) {
                    boolean bothNames = other.equals("a") && tokens[i].matches("[a-z]");
                    if (!other.equals(tokens[i]) && !bothNames) Says.fault(t + other, 1, t.length());
                }
            }
            t.append(tokens[i]).append(' ');
        }
        Says.right(t.toString());
        Says.fault(t + "; ", 1, t.length());
        Says.fault(t + "1 ", 1, t.length());
        Says.fault(t + "x ", 1, t.length());
    }

    private static void tell() {
        Says.says("TELL: 'flat' NAME INT ';' | 'wire' NAME NAME INT ';' | 'use' NAME NAME INT INT INT ';' |"
            + " ('goes' | 'quarrel' | 'costs' | 'pays') LAW ';' | 'surge' INT INT ';' | 'coins' INT ';' | 'seed' INT ';'.");
        told("", "flat", "a", "1", ";");
        told(AB, "wire", "b", "a", "1", ";");
        told(AB, "use", "u", "a", "1", "0", "0", ";");
        for (String row : new String[] {"flat", "flat a", "wire", "wire a", "wire a b", "use", "use u", "use u a", "use u a 1", "use u a 1 0",
            "surge", "surge 1", "coins", "seed", "goes", "goes =", "costs", "quarrel ="}) {
            Says.fault(row + ";", 1, row.length());
        }
        for (String word : new String[] {"goes", "quarrel", "costs", "pays"}) {
            told("", word, "=", "1", ";");
            for (String rest : new String[] {" 1;", " (1);", " load;", " if 1 < 2 then 3 else 4;", " + 1;"}) Says.fault(word + rest, 1, word.length() + 1);
        }
        told("", "surge", "1", "1", ";");
        told("", "coins", "1", ";");
        told("", "seed", "1", ";");
        for (String word : new String[] {"if", "then", "else", "load", "which", "a", "1", "=", "(", "+"}) Says.fault(word + " a 1;", 1, 0);
    }

    private static void law() {
        Says.says("LAW: '=' {'if' E '<' E 'then' E 'else'} E.");
        told("", "goes", "=", "if", "1", "<", "2", "then", "3", "else", "4", ";");
        told("", "pays", "=", "if", "1", "<", "2", "then", "3", "else", "if", "1", "<", "2", "then", "3", "else", "4", ";");
        Says.fault("goes = if 1 < 2 then if 1 < 2 then 3 else 4 else 5;", 1, 21);
        Says.fault("goes = 1 if 1 < 2 then 3 else 4;", 1, 9);
        Says.fault("goes = (if 1 < 2 then 3 else 4);", 1, 8);
        Says.fault("goes = if 1 < 2 < 3 then 4 else 5;", 1, 16);
        Says.fault("goes = if (1 < 2) then 3 else 4;", 1, 13);
        Says.fault("goes = 1 < 2;", 1, 9);
        Says.fault("goes = 1 else 2;", 1, 9);
        Says.fault("goes = 1 = 2;", 1, 9);
    }

    private static void sums() {
        Says.says("E: PART {('+' | '-') PART}.");
        told("", "goes", "=", "1", "+", "2", "-", "3", ";");
        Says.fault("goes = + 1;", 1, 7);
        Says.fault("goes = - 1;", 1, 7);
        Says.fault("goes = 1 - - 1;", 1, 11);
        Says.fault("goes = 1 * - 1;", 1, 11);
        Says.fault("goes = 1 + ;", 1, 11);
    }

    private static void products() {
        Says.says("PART: UNIT {('*' | '/') UNIT}.");
        told("", "goes", "=", "1", "*", "2", "/", "3", ";");
        Says.fault("goes = * 1;", 1, 7);
        Says.fault("goes = 1 * / 1;", 1, 11);
        Says.fault("goes = 1 / ;", 1, 11);
        Says.fault("goes = (1) (2);", 1, 11);
        Says.fault("goes = 2 load;", 1, 9);
    }

    private static void units() {
        Says.says("UNIT: INT | VAR | '(' E ')'.");
        told("", "goes", "=", "(", "1", "+", "load", ")", "*", "(", "2", ")", ";");
        Says.fault("goes = ();", 1, 8);
        Says.fault("goes = (1;", 1, 9);
        Says.fault("goes = 1);", 1, 8);
        Says.fault("goes = (1));", 1, 10);
        Says.fault("goes = )1(;", 1, 7);
        Says.fault("goes = a;", 1, 7);
        Says.fault("flat a 1; goes = a;", 1, 17);
    }

    private static void vars() {
        Says.says("VAR: 'load' | 'rating' | 'age' | 'hour' | 'day' | 'amps' | 'temper' | 'dark' | 'which'.");
        for (String word : WORDS) {
            boolean var = java.util.Arrays.asList(VARS).contains(word);
            for (String law : new String[] {"goes", "quarrel", "costs", "pays"}) {
                Says.fault(law + " = 1 + " + word + ";", var ? 0 : 1, var ? NONE : law.length() + 7);
            }
        }
    }

    private static void flats() {
        Says.says("FLATS, 7 at most (a NAME, TEMPER 0 .. 9; FLAT 0 has the MAIN),");
        Says.eq("7 flats", Says.with(SEVEN).count(0), 7);
        Says.fault(SEVEN + "flat h 0;", 2, SEVEN.length());
        Says.eq("temper 0", Says.with("flat a 0;").flat(0, 0), 0);
        Says.eq("temper 9", Says.with("flat a 9;").flat(0, 0), 9);
        Says.fault("flat a 10;", 5, 7);
        Says.fault("flat a 9999;", 5, 7);
        FuseTreaty x = Says.with(AB);
        Says.eq("flat 0 has the main", x.flat(0, 1), 1);
        Says.eq("flat 1 has none", x.flat(1, 1), 0);
    }

    private static void wires() {
        Says.says("WIRES, 10 at most (two FLATS, either way, RATING 1 .. 99),");
        Says.eq("10 wires", Says.with(TEN).count(1), 10);
        fullHouse();
        Says.fault(TEN + "wire b g 1;", 2, TEN.length());
        Says.eq("rating 1", Says.with(AB + "wire a b 1;").wire(0, 2), 1);
        Says.eq("rating 99", Says.with(AB + "wire a b 99;").wire(0, 2), 99);
        Says.fault(AB + "wire a b 0;", 5, 27);
        Says.fault(AB + "wire a b 100;", 5, 27);
        Says.eq("led one way", Says.with(AB + "wire a b 1;").count(7), 3);
        Says.eq("led the other way", Says.with(AB + "wire b a 1;").count(7), 3);
    }

    private static void uses() {
        Says.says("USES, 8 at most (a NAME, its FLAT, AMPS 1 .. 19, FROM which hour of the day 0 .. 23 TILL which, not less 0 .. 23),");
        StringBuilder eight = new StringBuilder("flat a 0;");
        for (char c = 'p'; c < 'x'; c++) eight.append("use ").append(c).append(" a 1 0 0;");
        Says.eq("8 uses", Says.with(eight.toString()).count(2), 8);
        Says.fault(eight + "use x a 1 0 0;", 2, eight.length());
        String use = "flat a 0;use u a ";
        Says.fault(use + "0 0 0;", 5, 17);
        Says.eq("1 amp", Says.with(use + "1 0 0;").use(0, 1), 1);
        Says.eq("19 amps", Says.with(use + "19 0 0;").use(0, 1), 19);
        Says.fault(use + "20 0 0;", 5, 17);
        Says.eq("from 23", Says.with(use + "1 23 23;").use(0, 2), 23);
        Says.fault(use + "1 24 23;", 5, 19);
        Says.fault(use + "1 24 24;", 5, 19);
        Says.eq("till 23", Says.with(use + "1 0 23;").use(0, 3), 23);
        Says.fault(use + "1 0 24;", 5, 21);
        for (int h = 0; h < 24; h++) {
            Says.eq("from " + h, Says.with(use + "1 " + h + " " + h + ";").use(0, 3), h);
            if (h > 0) Says.fault(use + "1 " + h + " " + (h - 1) + ";", 5, use.length() + 3 + (h > 9 ? 2 : 1));
        }
    }

    /** As many of each sort as there can be: the last flat, wire and use are as good as the others. */
    private static void fullHouse() {
        StringBuilder text = new StringBuilder(TEN.replace(" 1;", " 5;").replace("wire b f 5", "wire f g 9"));
        for (char c = 'p'; c < 'x'; c++) text.append("use ").append(c).append(c == 'w' ? " g 6 3 3;" : " b 1 0 1;");
        FuseTreaty x = Says.with(text + "goes = if which < 5 then 0 else load - rating; costs = 1; quarrel = 1; pays = 1;");
        Says.eq("the last use in the last flat's wire", x.peak(5, 48, 0), 6);
        Says.eq("the last wire comes into its own", x.peak(9, 48, 0), 6);
        Says.eq("the last wire comes into its own", x.peak(9, 48, 1), 27);
        Says.eq("first", x.first(0), 4);
        Says.eq("first", x.first(1), 5);
        Says.eq("thick", x.thick(1), 5);
        Says.eq("together", x.together(1), 127);
        Says.eq("when", x.when(7), -2);
        Says.eq("cut", x.cut(6, NONE), 2);
        Says.eq("cut", x.cut(6, 0), 4);
        Says.eq("cut", x.cut(6, 1), 5);
        Says.eq("clash", x.clash(6, 7), 0);
        Says.eq("hottest", x.hottest(0), 0);
        Says.eq("hottest", x.hottest(1), 2);
        Says.eq("needed", x.needed(), 0);
        Says.eq("share", x.share(6, 9), 0);
        Says.eq("then", x.then(4, 2), 1);
        Says.eq("litIn", x.litIn(6, 4), 1);
        Says.eq("year", x.year(4, 20), 0);
        Says.eq("went", x.went(0, 1), 1023);
        Says.eq("hours", x.hours(4), 4);
        Says.eq("gone", x.count(6), 32);
        Says.eq("by the last wire", x.way(6, 0), 9);
        Says.eq("by the last wire", x.way(6, 1), 4);
        Says.eq("needed", x.needed(), 16 + 512);
        Says.eq("without", x.without(9), 64);
        Says.is("pin", x.pin(9, true), true);
        Says.eq("thicken", x.thicken(9), 114);
        Says.eq("rating", x.wire(9, 2), 10);
        Says.eq("tell", x.tell(6, false), 0);
        Says.eq("went", x.went(1, 1), 16 + 512);
        Says.eq("ask", x.ask(0), 6);
        Says.is("agree", x.agree(7, false), true);
        Says.eq("agreed", x.use(7, 4), 0);
        Says.eq("mend", x.mend(5), 113);
        Says.eq("thick, where none helps", Says.with(text + "goes = 1;").thick(20), -2);
    }

    private static void numbered() {
        Says.says("numbered each from 0 on as they stand.");
        FuseTreaty x = Says.with("flat z 3;use v z 2 0 0;flat y 4;wire y z 7;use u y 3 0 0;flat x 5;wire x y 8;use t x 4 0 0;");
        for (int i = 0; i < 3; i++) {
            Says.eq("flat " + i, x.flat(i, 0), 3 + i);
            Says.eq("use " + i, x.use(i, 1), 2 + i);
            Says.eq("use's flat " + i, x.use(i, 0), i);
        }
        Says.eq("wire 0", x.wire(0, 2), 7);
        Says.eq("wire 1", x.wire(1, 2), 8);
        Says.eq("no flat 3", x.flat(3, 0), NONE);
        Says.eq("no wire 2", x.wire(2, 0), NONE);
        Says.eq("no use 3", x.use(3, 0), NONE);
    }

    private static void laws() {
        Says.says("LAWS: GOES (load less rating), QUARREL (0), COSTS (rating), PAYS (amps), if not told; the last one.");
        String house = "flat m 3; flat a 9; flat b 9; wire m a 5; use u a 5 0 23; use v a 1 1 1;";
        FuseTreaty x = Says.with(house, 1);
        Says.eq("6 in 5: it goes", x.wire(0, 8), 1);
        x.agree(1, false);
        Says.eq("5 in 5: it stays", x.wire(0, 8), 0);
        Says.eq("quarrel", x.flat(2, 4), 0);
        Says.eq("costs", x.wire(0, 7), 5);
        Says.eq("pays", x.use(0, 6), 5);
        FuseTreaty y = Says.with(house + "goes = 1; quarrel = 2; costs = 3; pays = 4; goes = 0; quarrel = 12; costs = 13; pays = 14;", 1);
        Says.eq("the last goes", y.wire(0, 8), 0);
        Says.eq("the last quarrel", y.flat(2, 4), 12);
        Says.eq("the last costs", y.wire(0, 7), 13);
        Says.eq("the last pays", y.use(0, 6), 14);
        FuseTreaty z = Says.with(house + "pays = if 1 < 2 then 3 else 4; pays = 8;");
        Says.eq("a shorter one behind a longer one", z.use(0, 6), 8);
        Says.eq("no limit of laws", Says.with("flat m 0; use u m 1 0 0;" + "pays = 1;".repeat(60) + "pays = 7;").use(0, 6), 7);
    }

    private static void surge() {
        Says.says("SURGE: in how many of 100 hours 0 .. 100, by how many AMPS 0 .. 19 (0, 0), COINS 0 .. 999 (100), SEED 0 .. 9999 (0): the last one.");
        for (int h = 0; h < 60; h++) {
            Says.eq("surge 100 in hour " + h, Says.with("surge 100 1;seed 9;", h).count(13), 1);
            Says.eq("surge 0 in hour " + h, Says.with("surge 0 19;seed 9;", h).count(13), 0);
            Says.eq("no surge told, in hour " + h, Says.with("seed 9;", h).count(13), 0);
        }
        Says.fault("surge 101 0;", 5, 6);
        Says.fault("surge 0 20;", 5, 8);
        Says.right("surge 100 19;");
        Says.right("surge 0 0;");
        Says.eq("19 amps more", Says.with("flat m 0; flat a 0; wire m a 19; use u a 1 0 23; surge 100 19;", 1).count(6), 1);
        Says.eq("coins 0", Says.with("coins 0;").count(4), 0);
        Says.eq("coins 999", Says.with("coins 999;").count(4), 999);
        Says.eq("coins not told", Says.with("flat a 0;").count(4), 100);
        Says.fault("coins 1000;", 5, 6);
        Says.right("seed 9999;");
        String surge = "surge 50 1;";
        for (int h = 0; h < 40; h++) {
            int none = Says.with(surge, h).count(13);
            Says.eq("seed 0 if not told, in hour " + h, none, Says.with(surge + "seed 0;", h).count(13));
            Says.eq("the last seed, in hour " + h, Says.with(surge + "seed 7;seed 0;", h).count(13), none);
        }
        Says.eq("the last surge", Says.with("surge 100 1;surge 0 0;").count(13), 0);
        Says.eq("the last coins", Says.with("coins 7;coins 8;").count(4), 8);
    }

    private static void faultOrder() {
        Says.says("FAULTS of a text, the first by its place (a byte; the text's end: its length), of one place the least:");
        Says.fault("flat", 1, 4);
        Says.fault("flat \n ", 1, 7);
        Says.fault("?", 1, 0);
        Says.fault(SEVEN + "flat h 0; ?", 2, SEVEN.length());
        Says.fault(SEVEN.replace("flat g", "flat 1") + "flat h 0;", 1, SEVEN.indexOf("g 0"));
        Says.fault("goes = (((((((1 ? ", 2, 13);
        Says.fault("goes = ((((((? (", 1, 13);
        Says.fault(FULL + "flat", 2, FULL.length());
        Says.fault(FULL + " then", 1, FULL.length() + 1);
        Says.fault(FULL + " ?", 1, FULL.length() + 1);
        Says.fault("flat a 10;flat a 0;", 5, 7);
        Says.fault("flat a 0;flat a 10;", 3, 14);
        Says.fault("coins 1000;wire x y 0;", 5, 6);
        Says.fault("wire x y 0;coins 1000;", 4, 5);
    }

    private static void syntax() {
        Says.says("1 SYNTAX: a TOKEN, or what is none, with which no text goes on.");
        Says.fault("flat flat 1;", 1, 5);
        Says.fault("flat a b;", 1, 7);
        Says.fault("flat a 1 1;", 1, 9);
        Says.fault("wire a 1 1;", 1, 7);
        Says.fault("use u a 1 2;", 1, 11);
        Says.fault("surge 1;", 1, 7);
        Says.fault("coins;", 1, 5);
        Says.fault("flat a @;", 1, 7);
        Says.fault("flat a 1 ", 1, 9);
        Says.right("flat a 1 ;");
    }

    private static void room() {
        Says.says("2 ROOM: a 401st TOKEN; one more of a sort than told (at its first TOKEN); a 5th if of a LAW (at it); a 7th ( within one another (at it).");
        Says.right(FULL);
        Says.right(FULL + "  ");
        Says.fault(FULL + " seed 1;", 2, FULL.length() + 1);
        Says.fault(FULL + "seed", 2, FULL.length());
        String seeds = "seed 1;".repeat(133);
        Says.right(seeds);
        Says.fault(seeds + "seed ", 1, seeds.length() + 5);
        Says.fault(seeds + "seed 1;", 2, seeds.length() + 5);
        Says.fault(seeds + "seed ;", 1, seeds.length() + 5);
        String law = "goes = 1" + "+1".repeat(198);
        Says.right(law + ";");
        Says.fault(law + "+1;", 2, law.length() + 1);
        Says.fault(law + "+;", 1, law.length() + 1);
        String inner = "goes = " + "1+".repeat(198) + "((";
        Says.fault(inner + "(", 2, inner.length());
        Says.fault(inner + "load", 2, inner.length());
        Says.fault(inner + ")", 1, inner.length());
        Says.fault(SEVEN + " flat", 2, SEVEN.length() + 1);
        Says.fault(SEVEN + " flat flat", 2, SEVEN.length() + 1);
        Says.fault(TEN + " wire", 2, TEN.length() + 1);
        Says.fault(TEN + " flat h 0;", 2, TEN.length() + 1);
        String eight = "use u a 1 0 0;".repeat(8);
        Says.fault(eight + " use", 2, eight.length() + 1);
        Says.fault(eight + "", 4, 6);
        ifsAndBrackets();
    }

    private static void ifsAndBrackets() {
        String four = "goes = " + "if 1 < 2 then 3 else ".repeat(4);
        Says.right(four + "4;");
        Says.fault(four + "if 1 < 2 then 3 else 4;", 2, four.length());
        Says.fault(four + "if", 2, four.length());
        Says.right(four + "4;" + four.replace("goes", "pays") + "4;" + four + "5;");
        Says.fault(four + "4;" + four + "if", 2, 2 * four.length() + 2);
        Says.right("goes = ((((((1))))));");
        Says.fault("goes = (((((((1)))))));", 2, 13);
        Says.right("goes = ((((((1)))))) + ((((((1)))))) * ((((((1))))));");
        Says.fault("goes = ((((((1)))))) + (((((((1)))))));", 2, 29);
        Says.right("goes = (1+(1+(1+(1+(1+(1+1))))));");
        Says.fault("goes = (1+(1+(1+(1+(1+(1+(1+1)))))));", 2, 25);
        Says.right("goes = if ((((((1)))))) < ((((((2)))))) then ((((((3)))))) else ((((((4))))));");
        Says.fault("goes = if 1 < (((((((2))))))) then 3 else 4;", 2, 20);
        Says.fault("goes = ((((((1(", 1, 14);
    }

    private static void twice() {
        Says.says("If there is none, likewise: 3 TWICE: a NAME told already (of FLATS and USES together);"
            + " (at the second NAME) a WIRE from a FLAT to itself, or that there is already.");
        Says.fault("flat a 0;flat a 0;", 3, 14);
        Says.fault("flat a 0;use a a 1 0 0;", 3, 13);
        Says.fault("flat a 0;use b a 1 0 0;use b a 1 0 0;", 3, 27);
        Says.fault("flat a 0;use b a 1 0 0;flat b 0;", 3, 28);
        Says.right("flat a 0;use b a 1 0 0;flat c 0;use d a 1 0 0;");
        Says.fault("flat a 0;wire a a 1;", 3, 16);
        Says.fault(AB + "wire b b 1;", 3, 25);
        Says.fault(AB + "wire a b 1;wire a b 2;", 3, 36);
        Says.fault(AB + "wire a b 1;wire b a 2;", 3, 36);
        Says.right(AB + "flat c 0;wire a b 1;wire b c 2;wire c a 1;");
        Says.fault(TEN.replace("wire b f", "wire f a"), 3, TEN.length() - 4);
        Says.fault("flat a 0;wire a a 0;", 3, 16);
        Says.fault("flat a 0;flat a 0;?", 1, 18);
        Says.fault("flat a 0;flat a 0;goes = (((((((1)))))));", 2, 31);
    }

    private static void name() {
        Says.says("4 NAME: (at it) no such FLAT told ahead (a NAME told more than once is that of the first one).");
        Says.fault("flat a 0;wire b a 1;flat b 0;", 4, 14);
        Says.fault("flat a 0;wire a b 1;flat b 0;", 4, 16);
        Says.fault("wire b b 1;flat b 0;", 4, 5);
        Says.fault("flat a 0;use b b 1 0 0;", 4, 15);
        Says.fault("flat a 0;use b c 1 0 0;flat c 0;", 4, 15);
        Says.fault("flat a 0;use b a 1 0 0;wire a b 1;", 4, 30);
        Says.fault("flat a 0;use b a 1 0 0;use c b 1 0 0;", 4, 29);
        Says.fault("flat a 0;flat ab 0;wire a abc 1;", 4, 26);
        Says.right("flat a 0;flat ab 0;wire a ab 1;");
        Says.fault("wire a b 1;?", 1, 11);
    }

    private static void wrong() {
        Says.says("5 WRONG (at the INT): a number not as told above.");
        Says.fault("flat  a  10;", 5, 9);
        Says.fault(AB + "wire a b  0;", 5, 28);
        Says.fault("flat a 0;use u a  0 24 24;", 5, 18);
        Says.fault("flat a 0;use u a 1  24 24;", 5, 20);
        Says.fault("flat a 0;use u a 1 5  4;", 5, 22);
        Says.fault("flat a 0;use u a 20 0 0;flat a 0;", 5, 17);
        Says.fault("surge  101 20;", 5, 7);
        Says.fault("surge 100  20;", 5, 11);
        Says.fault("coins 1000;coins 1;", 5, 6);
        Says.right("goes = 9999 * 9999;");
        Says.fault("coins 1000;?", 1, 11);
    }

    private static FuseTreaty busy() {
        FuseTreaty x = Says.with(Says.PAIR + "goes = age - 2; quarrel = 7; costs = 3; pays = 9; surge 40 5; coins 30; seed 4;");
        x.pin(0, true);
        x.thicken(0);
        x.hours(30);
        x.pin(0, false);
        x.hold(0);
        x.hours(3);
        x.agree(0, false);
        x.hold(2);
        x.tell(1, false);
        x.tell(0, true);
        return x;
    }

    private static void putInPlace() {
        Says.says("A text with a FAULT changes nothing but the tape; else it is in place of the one ahead: hour 0, all WIRES whole, as told, no pins,"
            + " all USES agreed; nothing can be undone, nothing is TOLD, SLOTS hold nothing.");
        String[] texts = {"flat a 1", SEVEN + SEVEN, "flat a 1;flat a 1;coins 5;", "coins 5;wire a b 1;", "seed 5;goes = 5;flat a 10;",
            "flat q 1;flat r 2;wire q r 3;use t r 4 5 6;goes = 1;quarrel = 2;costs = 4;pays = 5;surge 6 7;coins 8;seed 9;seed 00000;",
            "flat q 1;flat r 2;wire q r 3;use t r 4 5 6;goes = 1;quarrel = 2;costs = 4;pays = 5;surge 6 7;coins 8;seed 9;coins 9999;"};
        int[] faults = {1, 2, 3, 4, 5, 1, 5};
        for (int i = 0; i < texts.length; i++) {
            FuseTreaty x = busy();
            FuseTreaty twin = busy();
            Says.eq("read of " + texts[i], Texts.read(x, texts[i]), faults[i]);
            Says.alike("a text with fault " + faults[i], Says.house(x), Says.house(twin));
            x.hours(40);
            twin.hours(40);
            Says.alike("and 40 hours", Says.house(x), Says.house(twin));
            Says.alike("and all undone", Says.depths(x), Says.depths(twin));
        }
        String next = "flat m 1; flat a 2; flat b 3; wire m a 3; wire b m 4; use u a 3 0 23; use v b 2 0 0;";
        FuseTreaty x = busy();
        Says.eq("read of " + next, Texts.read(x, next), 0);
        Says.alike("a text that is right", Says.all(x), Says.all(Says.with(next)));
        Says.alike("and what lies behind", Says.depths(x), Says.depths(Says.with(next)));
        FuseTreaty y = busy();
        Says.eq("read of nothing", y.read(), 0);
        Says.alike("the empty text", Says.all(y), Says.all(new FuseTreaty()));
        Says.alike("and what lies behind", Says.depths(y), Says.depths(new FuseTreaty()));
        textBehindText();
        FuseTreaty z = Says.with(next);
        Says.eq("hour", z.count(3), 0);
        Says.eq("gone", z.count(6), 0);
        Says.eq("ratings", z.count(15), 7);
        Says.eq("pins", z.count(14), 0);
        Says.eq("uses on", z.count(8), 3);
        Says.eq("age", z.wire(0, 4), 0);
        Says.eq("dark", z.flat(1, 2), 0);
        Says.eq("quarrels", z.count(5), 0);
        Says.eq("undone", z.count(10), 0);
        Says.eq("told", z.count(11), 0);
        Says.eq("held", z.count(12), 0);
    }

    /** Nothing of a text is left in the next one: not its sorts, its laws, its surges, its pins, nor its ways. */
    private static void textBehindText() {
        StringBuilder uses = new StringBuilder(TEN);
        for (char c = 'p'; c < 'x'; c++) uses.append("use ").append(c).append(" a 1 0 0;");
        FuseTreaty full = new FuseTreaty();
        for (int i = 0; i < 4; i++) Says.eq("as many as can be, once more", Texts.read(full, uses.toString()), 0);
        FuseTreaty laws = new FuseTreaty();
        String longest = "flat m 0;use u m 1 0 23;pays = " + "1-".repeat(180);
        for (int i = 0; i < 5; i++) {
            Says.eq("a long law", Texts.read(laws, longest + "(0-9" + i + ")+89;"), 0);
            Says.eq("what it tells", laws.use(0, 6), i + 1);
        }
        Says.eq("a law with an if", Texts.read(laws, "flat m 0;use u m 7 0 23;pays = if 1 < 2 then 50 else 4;"), 0);
        Says.eq("what it tells", laws.use(0, 6), 50);
        Says.eq("a law with none", Texts.read(laws, "flat m 0;use u m 7 0 23;pays = 1;"), 0);
        Says.eq("what it tells", laws.use(0, 6), 1);
        Says.eq("no law", Texts.read(laws, "flat m 0;use u m 7 0 23;"), 0);
        Says.eq("as if not told", laws.use(0, 6), 7);
        FuseTreaty surges = Says.with(Says.PAIR + "surge 100 19;seed 77;coins 3;");
        surges.pin(0, true);
        Says.eq("no surge told", Texts.read(surges, Says.PAIR), 0);
        Says.eq("no surge", surges.count(13), 0);
        Says.eq("no pins", surges.count(14), 0);
        Says.eq("coins", surges.count(4), 100);
        surges.hours(72);
        Says.eq("it stays", surges.count(6), 0);
        Says.eq("no seed told", Texts.read(surges, Says.PAIR + "surge 50 0;"), 0);
        FuseTreaty twin = Says.with(Says.PAIR + "surge 50 0;");
        for (int i = 0; i < 40; i++) {
            Says.eq("seed 0 in hour " + i, surges.count(13), twin.count(13));
            surges.hours(1);
            twin.hours(1);
        }
        FuseTreaty ways = Says.with("flat m 0; flat a 0; flat b 0; wire m a 1; wire a b 1; use u b 1 0 0;");
        Says.eq("by two wires", ways.flat(2, 3), 2);
        Says.eq("the next text", Texts.read(ways, "flat m 0; flat a 0; flat b 0; wire a b 1; wire b m 1; use u b 1 0 0;"), 0);
        Says.eq("by one wire", ways.flat(2, 3), 1);
        Says.eq("by wire 1", ways.way(2, 0), 1);
        Says.eq("nothing in wire 0", ways.wire(0, 6), 0);
        Says.eq("the next text", Texts.read(ways, "flat m 0; flat a 0; use u a 1 0 0;"), 0);
        Says.eq("not lit", ways.way(1, 0), -2);
    }
}
