import java.util.ArrayList;
import java.util.List;
import java.util.Random;

/** Texts for tests: how one is fed, and ones that are drawn, right or torn. */
final class Texts {
    private static final String[] VARS =
        {"load", "rating", "age", "hour", "day", "amps", "temper", "dark", "which"};
    private static final String[] BITS = {"flat", "wire", "use", "goes", "quarrel", "costs", "pays", "surge", "coins",
        "seed", "if", "then", "else", "load", "rating", "which", ";", "=", "+", "-", "*", "/", "<", "(", ")", "0", "7",
        "23", "99", "100", "1000", "9999", "00000", "12345", "a", "b", "abcdefgh", "abcdefghi", "A", "\t", "\n", "\r",
        "\u0000", "\u00ff", "\u000b", ":", ">", "((((((", "(((((((", "if 1 < 2 then 3 else"};

    private Texts() { }

    static int[] ints(CharSequence text, int at) {
        int[] v = new int[5];
        for (int i = 0; i < 20; i++) v[i / 4] = v[i / 4] << 8 | text.charAt(at + i) & 255;
        return v;
    }

    /** Puts a text behind an empty tape. */
    static void feed(FuseTreaty x, String text) {
        StringBuilder t = new StringBuilder(text);
        while (t.length() % 20 != 0) t.append(' ');
        for (int i = 0; i < t.length(); i += 20) {
            int[] v = ints(t, i);
            x.feed(v[0], v[1], v[2], v[3], v[4]);
        }
        x.back(t.length() - text.length());
    }

    static int read(FuseTreaty x, String text) {
        feed(x, text);
        return x.read();
    }

    static String right(Random r) {
        List<String> flats = new ArrayList<>();
        int nf = r.nextInt(12) == 0 ? r.nextInt(3) : 2 + r.nextInt(6);
        StringBuilder t = new StringBuilder();
        for (int i = 0; i < nf; i++) {
            flats.add("f" + (char) ('a' + i));
            t.append("flat ").append(flats.get(i)).append(' ').append(r.nextInt(10)).append(";\n");
        }
        List<String> wires = new ArrayList<>();
        for (int a = 0; a < nf; a++) for (int b = 0; b < a; b++) {
            wires.add(r.nextBoolean() ? flats.get(a) + " " + flats.get(b) : flats.get(b) + " " + flats.get(a));
        }
        java.util.Collections.shuffle(wires, r);
        int top = r.nextInt(4) == 0 ? 99 : r.nextBoolean() ? 30 : 14;
        for (int i = 0; i < Math.min(wires.size(), r.nextInt(3) == 0 ? r.nextInt(11) : 10); i++) {
            t.append("wire ").append(wires.get(i)).append(' ').append(1 + r.nextInt(top)).append(';');
        }
        for (int i = 0; i < (nf == 0 ? 0 : r.nextInt(3) == 0 ? r.nextInt(9) : 8); i++) {
            int from = r.nextInt(24);
            int till = from + r.nextInt(24 - from);
            t.append(" use u").append((char) ('a' + i)).append(' ').append(flats.get(r.nextInt(nf))).append(' ')
                .append(1 + r.nextInt(19)).append(' ').append(from).append(' ').append(till).append(';');
        }
        if (r.nextInt(3) != 0) t.append("surge ").append(r.nextInt(101)).append(' ').append(r.nextInt(20)).append(';');
        if (r.nextInt(3) != 0) t.append("coins ").append(r.nextInt(1000)).append(';');
        if (r.nextInt(3) != 0) t.append("seed ").append(r.nextInt(10000)).append(';');
        switch (r.nextInt(5)) {
            case 0 -> t.append("goes = load - rating - age / 9 + hour / 12;");
            case 1 -> t.append("goes = if load < rating then age - 60 - which else load - rating + day;");
            case 2 -> t.append("goes = ").append(law(r)).append(';');
            case 3 -> t.append("goes = load * ").append(1 + r.nextInt(3)).append("- rating * 2;");
            default -> { }
        }
        for (String name : new String[] {"quarrel", "costs", "pays"}) {
            if (r.nextInt(3) != 0) t.append(name).append(" = ").append(law(r)).append(";");
        }
        if (t.length() > 2000) t.setLength(0);
        return t.toString();
    }

    static String law(Random r) {
        StringBuilder t = new StringBuilder();
        for (int i = r.nextInt(3) == 0 ? r.nextInt(5) : r.nextInt(2); i > 0; i--) {
            t.append("if ").append(sum(r, 2)).append('<').append(sum(r, 2)).append(" then ").append(sum(r, 2)).append(" else ");
        }
        return t.append(sum(r, 3)).toString();
    }

    private static String sum(Random r, int deep) {
        StringBuilder t = new StringBuilder(unit(r, deep));
        for (int i = r.nextInt(4); i > 0; i--) t.append("+-*/-+-".charAt(r.nextInt(7))).append(unit(r, deep));
        return t.toString();
    }

    private static String unit(Random r, int deep) {
        if (deep > 0 && r.nextInt(5) == 0) return "(" + sum(r, deep - 1) + ")";
        if (r.nextInt(3) == 0) return String.valueOf(r.nextInt(6) == 0 ? r.nextInt(10000) : r.nextInt(12));
        return VARS[r.nextInt(9)];
    }

    /** A right text with pieces taken out, put in or told twice. */
    static String torn(Random r) {
        String t = right(r);
        for (int i = r.nextInt(3); i > 0; i--) {
            int a = r.nextInt(t.length() + 1);
            int b = Math.min(t.length(), a + (r.nextBoolean() ? r.nextInt(4) : r.nextInt(40)));
            t = switch (r.nextInt(4)) {
                case 0 -> t.substring(0, a) + t.substring(b);
                case 1 -> t.substring(0, a) + BITS[r.nextInt(BITS.length)] + t.substring(a);
                case 2 -> t.substring(0, b) + t.substring(a);
                default -> t.substring(0, a) + " " + BITS[r.nextInt(BITS.length)] + " " + t.substring(b);
            };
        }
        if (t.length() > 2000) t = t.substring(0, 2000);
        return t;
    }
}
