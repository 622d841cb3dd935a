import java.util.Random;
import java.util.TreeMap;

/** Many small texts, most of them with a fault: the number and the place that the class tells, beside the model's. */
public final class FaultsTest {
    private static final int TEXTS = 60_000;
    private static final String[] NAMES = {"a", "b", "c", "d", "e", "g", "h", "i", "abcdefgh"};
    private static final String[] VARS = {"load", "rating", "age", "hour", "day", "amps", "temper", "dark", "which"};

    public static void main(String[] args) {
        int texts = args.length > 0 ? Integer.parseInt(args[0]) : TEXTS;
        int wrong = 0;
        TreeMap<Integer, Integer> seen = new TreeMap<>();
        FuseTreaty x = new FuseTreaty();
        Model m = new Model();
        for (int i = 0; i < texts && wrong < 20; i++) {
            Random r = new Random(i);
            String t = text(r);
            if (i % 100 == 0) {
                x = new FuseTreaty();
                m = new Model();
            }
            int got = Texts.read(x, t);
            StringBuilder padded = new StringBuilder(t);
            while (padded.length() % 20 != 0) padded.append(' ');
            for (int k = 0; k < padded.length(); k += 20) {
                int[] v = Texts.ints(padded, k);
                m.feed(v[0], v[1], v[2], v[3], v[4]);
            }
            m.back(padded.length() - t.length());
            int want = m.read();
            seen.merge(want, 1, Integer::sum);
            if (got != want || x.place() != m.place() || x.count(0) != m.count(0) || x.count(1) != m.count(1)
                    || x.count(2) != m.count(2) || x.count(4) != m.count(4) || x.count(15) != m.count(15)) {
                wrong++;
                System.out.println("text " + i + ": fault " + got + " at " + x.place() + ", the model says " + want + " at "
                        + m.place() + ": " + t);
            }
        }
        for (int f = 0; f <= 5 && texts == TEXTS; f++) {
            if (seen.getOrDefault(f, 0) < 500) {
                wrong++;
                System.out.println("fault " + f + " is drawn too seldom: " + seen);
            }
        }
        System.out.println(wrong == 0 ? "faults are alike: " + seen : wrong + " texts differ");
        if (wrong != 0) System.exit(1);
    }

    private static String text(Random r) {
        StringBuilder t = new StringBuilder();
        int flats = 1 + r.nextInt(r.nextInt(9) == 0 ? 9 : 7);
        for (int i = 0; i < flats; i++) {
            t.append("flat ").append(r.nextInt(40) == 0 ? NAMES[r.nextInt(9)] : NAMES[i]).append(sp(r)).append(n(r, 9)).append(";");
        }
        int wish = r.nextInt(4) == 0 ? r.nextInt(60) : r.nextInt(12);
        for (int i = 0; i < wish; i++) {
            switch (r.nextInt(8)) {
                case 0, 1, 2 -> t.append("wire ").append(name(r, flats)).append(' ').append(name(r, flats)).append(sp(r)).append(n(r, 99)).append(";");
                case 3 -> t.append("use ").append(r.nextInt(9) == 0 ? name(r, flats) : "u" + (char) ('a' + i % 26)).append(' ')
                    .append(name(r, flats)).append(sp(r)).append(n(r, 19)).append(' ').append(r.nextInt(9)).append(' ')
                    .append(4 + n(r, 18)).append(";");
                case 4 -> t.append("surge ").append(n(r, 100)).append(' ').append(n(r, 19)).append(";");
                case 5 -> t.append(r.nextBoolean() ? "coins " : "seed ").append(n(r, 999)).append(";");
                default -> t.append(new String[] {"goes", "quarrel", "costs", "pays"}[r.nextInt(4)]).append("=").append(law(r)).append(";");
            }
            if (r.nextInt(4) == 0) t.append("\n");
        }
        if (r.nextInt(3) == 0 && t.length() > 0) {
            int at = r.nextInt(t.length());
            switch (r.nextInt(3)) {
                case 0 -> t.deleteCharAt(at);
                case 1 -> t.insert(at, "; =+-*/<()a0zA\u0080\tif".charAt(r.nextInt(18)));
                default -> t.setLength(at);
            }
        }
        if (t.length() > 2000) t.setLength(2000);
        return t.toString();
    }

    private static String sp(Random r) {
        return r.nextInt(5) == 0 ? "" : r.nextInt(5) == 0 ? " \t\r\n" : " ";
    }

    private static String name(Random r, int flats) {
        return r.nextInt(30) == 0 ? "zz" : NAMES[r.nextInt(Math.min(flats, 9))];
    }

    private static int n(Random r, int most) {
        return r.nextInt(25) == 0 ? r.nextInt(2) * (most + 1) : 1 + r.nextInt(most);
    }

    private static String law(Random r) {
        StringBuilder t = new StringBuilder();
        for (int i = r.nextInt(4) == 0 ? r.nextInt(6) : 0; i > 0; i--) {
            t.append("if ").append(e(r, 0)).append("<").append(e(r, 0)).append("then ").append(e(r, 0)).append("else ");
        }
        return t.append(e(r, 0)).toString();
    }

    private static String e(Random r, int deep) {
        StringBuilder t = new StringBuilder();
        for (int i = r.nextInt(3); i >= 0; i--) {
            if (deep < 8 && r.nextInt(3) == 0) t.append('(').append(e(r, deep + 1)).append(')');
            else t.append(r.nextBoolean() ? VARS[r.nextInt(9)] : String.valueOf(r.nextInt(10000)));
            if (i > 0) t.append("+-*/".charAt(r.nextInt(4)));
        }
        return t.toString();
    }
}
