import java.util.Random;

/** Runs of calls drawn by fixed seeds, on the class and on Model: every answer must be the same. */
public final class ModelTest {
    private static final int RUNS = 700;
    private static int wrong = 0;

    public static void main(String[] args) {
        int runs = args.length > 0 ? Integer.parseInt(args[0]) : RUNS;
        int from = args.length > 1 ? Integer.parseInt(args[1]) : 0;
        for (int run = from; run < from + runs && wrong < 20; run++) {
            new Run(run).go();
        }
        System.out.println(wrong == 0 ? "the class and the model answer alike" : wrong + " answers differ");
        if (wrong != 0) System.exit(1);
    }

    private static final class Run {
        final int number;
        final Random r;
        final FuseTreaty x = new FuseTreaty();
        final Model m = new Model();
        final StringBuilder log = new StringBuilder();

        Run(int number) {
            this.number = number;
            this.r = new Random(number);
        }

        void same(String call, int got, int want) {
            log.append(call).append(" -> ").append(got).append('\n');
            if (got != want) {
                wrong++;
                System.out.println("run " + number + ": " + call + " answered " + got + ", the model says " + want);
                if (wrong == 1) System.out.println(log);
            }
        }

        void same(String call, boolean got, boolean want) {
            same(call, got ? 1 : 0, want ? 1 : 0);
        }

        void go() {
            int calls = 512;
            while (calls > 0 && wrong < 20) {
                if (calls == 512 || r.nextInt(60) == 0) calls -= text();
                for (int i = 0; i < 12 && calls > 0; i++, calls--) call();
            }
        }

        int text() {
            String t = number % 3 == 0 ? Texts.torn(r) : Texts.right(r);
            log.append("text: ").append(t).append('\n');
            int calls = 0;
            int whole = (t.length() + 19) / 20 * 20;
            StringBuilder padded = new StringBuilder(t);
            while (padded.length() < whole) padded.append((char) r.nextInt(256));
            same("back all", x.back(x.count(9)), m.back(m.count(9)));
            for (int i = 0; i < whole; i += 20, calls++) {
                int[] v = Texts.ints(padded, i);
                same("feed", x.feed(v[0], v[1], v[2], v[3], v[4]), m.feed(v[0], v[1], v[2], v[3], v[4]));
            }
            int n = whole - t.length();
            same("back", x.back(n), m.back(n));
            same("read()", x.read(), m.read());
            same("place()", x.place(), m.place());
            return calls + 4;
        }

        int near(int n) {
            return r.nextInt(12) == 0 ? (r.nextBoolean() ? -1 - r.nextInt(2) : n + r.nextInt(3)) : r.nextInt(Math.max(1, n));
        }

        void call() {
            int f = near(m.count(0));
            int w = near(m.count(1));
            int u = near(m.count(2));
            boolean b = r.nextBoolean();
            int q;
            int n;
            switch (r.nextInt(38)) {
                case 0 -> same("feed", x.feed(f, w, u, f, w), m.feed(f, w, u, f, w));
                case 1 -> { n = near(25); same("back(" + n + ")", x.back(n), m.back(n)); }
                case 2 -> { if (r.nextInt(20) == 0) same("read()", x.read(), m.read()); same("place()", x.place(), m.place()); }
                case 3 -> { q = near(6); same("flat(" + f + ", " + q + ")", x.flat(f, q), m.flat(f, q)); }
                case 4 -> { q = near(9); same("wire(" + w + ", " + q + ")", x.wire(w, q), m.wire(w, q)); }
                case 5 -> { q = near(7); same("use(" + u + ", " + q + ")", x.use(u, q), m.use(u, q)); }
                case 6 -> same("agree(" + u + ", " + b + ")", x.agree(u, b), m.agree(u, b));
                case 7, 36 -> same("mend(" + w + ")", x.mend(w), m.mend(w));
                case 8 -> same("thicken(" + w + ")", x.thicken(w), m.thicken(w));
                case 9 -> same("pin(" + w + ", " + b + ")", x.pin(w, b), m.pin(w, b));
                case 10, 37 -> { n = r.nextInt(3) == 0 ? near(73) : near(9); same("hours(" + n + ")", x.hours(n), m.hours(n)); }
                case 11 -> same("undo()", x.undo(), m.undo());
                case 12 -> { n = near(6); same("way(" + f + ", " + n + ")", x.way(f, n), m.way(f, n)); }
                case 13 -> { n = near(49); q = near(2); same("peak(" + w + ", " + n + ", " + q + ")", x.peak(w, n, q), m.peak(w, n, q)); }
                case 14 -> { q = near(2); same("first(" + q + ")", x.first(q), m.first(q)); }
                case 15 -> { q = near(2); same("together(" + q + ")", x.together(q), m.together(q)); }
                case 16 -> same("when(" + u + ")", x.when(u), m.when(u));
                case 17 -> { n = near(21); same("thick(" + n + ")", x.thick(n), m.thick(n)); }
                case 18 -> { n = r.nextInt(5) - 1; same("cut(" + f + ", " + n + ")", x.cut(f, n), m.cut(f, n)); }
                case 19 -> same("share(" + f + ", " + w + ")", x.share(f, w), m.share(f, w));
                case 20 -> same("without(" + w + ")", x.without(w), m.without(w));
                case 21 -> same("needed()", x.needed(), m.needed());
                case 22 -> { q = near(2); same("hottest(" + q + ")", x.hottest(q), m.hottest(q)); }
                case 23 -> { n = near(m.count(2)); same("clash(" + u + ", " + n + ")", x.clash(u, n), m.clash(u, n)); }
                case 24 -> { n = near(73); q = near(3); same("then(" + n + ", " + q + ")", x.then(n, q), m.then(n, q)); }
                case 25 -> { n = near(73); same("litIn(" + f + ", " + n + ")", x.litIn(f, n), m.litIn(f, n)); }
                case 26 -> { n = near(73); q = near(21); same("year(" + n + ", " + q + ")", x.year(n, q), m.year(n, q)); }
                case 27, 28 -> same("tell(" + f + ", " + b + ")", x.tell(f, b), m.tell(f, b));
                case 29 -> { if (r.nextInt(3) == 0) same("forget()", x.forget(), m.forget()); }
                case 30 -> { n = near(m.count(11) + 1); q = near(2); same("went(" + n + ", " + q + ")", x.went(n, q), m.went(n, q)); }
                case 31 -> { n = near(m.count(11) + 1); same("ask(" + n + ")", x.ask(n), m.ask(n)); }
                case 32 -> { n = near(3); same("hold(" + n + ")", x.hold(n), m.hold(n)); }
                case 33 -> { n = near(3); same("restore(" + n + ")", x.restore(n), m.restore(n)); }
                default -> { q = near(16); same("count(" + q + ")", x.count(q), m.count(q)); }
            }
        }
    }
}
