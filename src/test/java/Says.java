import java.io.IOException;
import java.nio.file.Files;
import java.nio.file.Path;
import java.util.ArrayList;
import java.util.List;
import java.util.function.Supplier;
import java.util.function.ToIntFunction;

/** What the tests of the document's bounds share: the sentence that is tested, the answers it makes due, and twins. */
final class Says {
    static final int NONE = FuseTreaty.NONE;
    static final int MIN = Integer.MIN_VALUE;
    static final int MAX = Integer.MAX_VALUE;

    /** Two flats and one wire, just as thick as what is in it; laws and more may be put behind. */
    static final String PAIR = "flat m 0; flat a 9; wire m a 5; use u a 5 0 23;";

    /** main - ann - bob - cid - main, and eve behind bob. */
    static final String SQUARE = "flat main 2; flat ann 3; flat bob 5; flat cid 1; flat eve 9;"
        + "wire main ann 10; wire ann bob 6; wire main cid 8; wire cid bob 4; wire bob eve 5;"
        + "use iron ann 5 0 5; use lamp bob 3 2 8; use cook bob 4 4 6; use pram cid 7 20 23; use bell eve 1 1 23;";

    private static final List<String> SAID = new ArrayList<>();
    private static int wrong = 0;
    private static int checked = 0;
    private static int checkedAhead = 0;

    private Says() { }

    /** What is checked from here on is what these words of the document ask for. */
    static void says(String words) {
        askChecks();
        SAID.add(words);
    }

    private static void askChecks() {
        if (!SAID.isEmpty() && checked == checkedAhead) tellWrong("nothing is checked");
        checkedAhead = checked;
    }

    private static void tellWrong(String what) {
        wrong++;
        System.out.println("\"" + (SAID.isEmpty() ? "" : SAID.get(SAID.size() - 1)) + "\": " + what);
    }

    static void eq(String call, int got, int want) {
        checked++;
        if (got != want) tellWrong(call + " answered " + got + ", due is " + want);
    }

    static void is(String call, boolean got, boolean want) {
        eq(call, got ? 1 : 0, want ? 1 : 0);
    }

    static void alike(String call, String got, String want) {
        checked++;
        if (!got.equals(want)) tellWrong(call + ": " + got + ", due is " + want);
    }

    static FuseTreaty with(String text) {
        FuseTreaty x = new FuseTreaty();
        eq("read of " + text, Texts.read(x, text), 0);
        return x;
    }

    static FuseTreaty with(String text, int hours) {
        FuseTreaty x = with(text);
        for (int left = hours; left > 0; left -= 72) x.hours(Math.min(72, left));
        return x;
    }

    /** A text that is right: its number of FAULT is 0, and there is no place. */
    static void right(String text) {
        fault(text, 0, NONE);
    }

    static void fault(String text, int number, int place) {
        FuseTreaty x = new FuseTreaty();
        eq("read of " + text, Texts.read(x, text), number);
        eq("place in " + text, x.place(), place);
    }

    static String blanks(int n) {
        return " ".repeat(n);
    }

    static String times(int n, String piece) {
        return piece.repeat(n);
    }

    /** A call that is refused: it answers so, and then the object goes on as one that was never asked. */
    static void refused(Supplier<FuseTreaty> made, String call, ToIntFunction<FuseTreaty> asked, int answer) {
        FuseTreaty x = made.get();
        FuseTreaty twin = made.get();
        eq(call, asked.applyAsInt(x), answer);
        alike(call + " changes nothing", all(x), all(twin));
        alike(call + " changes nothing that is held", depths(x), depths(twin));
    }

    /** A call that only asks: the object goes on as one that was never asked. */
    static void onlyAsks(Supplier<FuseTreaty> made, String call, ToIntFunction<FuseTreaty> asked) {
        FuseTreaty x = made.get();
        refused(made, call, asked, asked.applyAsInt(x));
    }

    static int bit(boolean b) {
        return b ? 1 : 0;
    }

    /** All that can be seen of an object now. */
    static String all(FuseTreaty x) {
        return "place " + x.place() + " " + house(x);
    }

    /** All that can be seen of an object now but the place of the latest FAULT. */
    static String house(FuseTreaty x) {
        int[] counts = new int[16];
        StringBuilder s = new StringBuilder("counts");
        for (int i = 0; i < 16; i++) {
            counts[i] = x.count(i);
            s.append(' ').append(counts[i]);
        }
        for (int f = 0; f < counts[0]; f++) {
            s.append("; flat");
            for (int i = 0; i < 6; i++) s.append(' ').append(x.flat(f, i));
        }
        for (int w = 0; w < counts[1]; w++) {
            s.append("; wire");
            for (int i = 0; i < 9; i++) s.append(' ').append(x.wire(w, i));
        }
        for (int u = 0; u < counts[2]; u++) {
            s.append("; use");
            for (int i = 0; i < 7; i++) s.append(' ').append(x.use(u, i));
        }
        s.append("; went");
        for (int k = 0; k <= counts[11]; k++) s.append(' ').append(x.went(k, 1));
        return s.toString();
    }

    /** What comes to light as all is undone, and as each SLOT is gone on from. */
    static String depths(FuseTreaty x) {
        StringBuilder s = new StringBuilder("undone");
        for (int i = 0; i < 41 && x.undo(); i++) s.append("; ").append(brief(x));
        for (int slot = 0; slot < 3; slot++) s.append("; slot ").append(x.restore(slot)).append(' ').append(brief(x));
        return s.toString();
    }

    private static String brief(FuseTreaty x) {
        return x.count(3) + " " + x.count(4) + " " + x.count(5) + " " + x.count(6) + " " + x.count(8) + " " + x.count(14) + " " + x.count(15);
    }

    /** Ends the test: every quoted sentence stands in the document, and the document has no other. */
    static void end() {
        askChecks();
        Path path = Path.of("../shared/DOC.md");
        if (Files.exists(path)) checkQuotes(path);
        System.out.println(wrong == 0 ? SAID.size() + " sentences hold, by " + checked + " answers" : wrong + " answers are not as the document says");
        if (wrong != 0) System.exit(1);
    }

    private static void checkQuotes(Path path) {
        String doc = document(path);
        boolean[] quoted = new boolean[doc.length()];
        for (String words : SAID) {
            int at = doc.indexOf(plain(words));
            if (at < 0) {
                wrong++;
                System.out.println("the document does not say: " + words);
            }
            for (int i = at; at >= 0 && i < at + plain(words).length(); i++) quoted[i] = true;
        }
        StringBuilder left = new StringBuilder();
        for (int i = 0; i < doc.length(); i++) left.append(quoted[i] ? '\n' : doc.charAt(i));
        for (String words : left.toString().split("\n+")) {
            if (words.isBlank()) continue;
            wrong++;
            System.out.println("no test says: " + words.trim());
        }
    }

    /** What the document promises: without its headings, its face (of which RulesTest looks) and what it does not promise. */
    private static String document(Path path) {
        String text;
        try {
            text = Files.readString(path);
        } catch (IOException e) {
            throw new IllegalStateException(e);
        }
        String promised = text.substring(text.indexOf("An object is used"), text.indexOf("## Not promised"));
        String noFace = promised.replaceAll("(?s)## The public face.*?## Terms", " ");
        return plain(noFace.replaceAll("(?m)^##.*$", " ").replaceAll("(?m)^```\\w*$", " ").replaceAll("==== I+V?\\.", " "));
    }

    private static String plain(String words) {
        return words.replaceAll("\\s+", " ").trim();
    }
}
