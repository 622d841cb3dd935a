import java.lang.reflect.Constructor;
import java.lang.reflect.Field;
import java.lang.reflect.Method;
import java.lang.reflect.Modifier;
import java.nio.file.Files;
import java.nio.file.Path;
import java.util.Arrays;
import java.util.List;
import java.util.TreeSet;
import java.util.regex.Matcher;
import java.util.regex.Pattern;

/** The class beside the document's face, and as many of the rules of LANGUAGE.md as can be seen from outside. */
public final class RulesTest {
    private static final String FACE = "int feed(int,int,int,int,int);int back(int);int read();int place();int flat(int,int);"
        + "int wire(int,int);int use(int,int);boolean agree(int,boolean);int mend(int);int thicken(int);boolean pin(int,boolean);"
        + "int hours(int);boolean undo();int way(int,int);int peak(int,int,int);int first(int);int together(int);int when(int);"
        + "int thick(int);int cut(int,int);int share(int,int);int without(int);int needed();int hottest(int);int clash(int,int);"
        + "int then(int,int);int litIn(int,int);int year(int,int);int tell(int,boolean);int forget();int went(int,int);"
        + "int ask(int);boolean hold(int);boolean restore(int);int count(int)";
    private static int wrong = 0;

    public static void main(String[] args) throws Exception {
        face();
        classesInside();
        source(Files.readString(Path.of("src/main/java/FuseTreaty.java")));
        System.out.println(wrong == 0 ? "the rules are kept" : wrong + " rules are not kept");
        if (wrong != 0) System.exit(1);
    }

    private static void say(boolean fine, String rule) {
        if (!fine) {
            wrong++;
            System.out.println("not kept: " + rule);
        }
    }

    private static void face() throws Exception {
        Class<?> c = FuseTreaty.class;
        say(Modifier.isPublic(c.getModifiers()) && Modifier.isFinal(c.getModifiers()), "1: public and final");
        TreeSet<String> due = new TreeSet<>(Arrays.asList(FACE.split(";")));
        TreeSet<String> seen = new TreeSet<>();
        TreeSet<String> names = new TreeSet<>();
        for (Method m : c.getDeclaredMethods()) {
            if (Modifier.isPrivate(m.getModifiers()) || m.isSynthetic()) continue;
            StringBuilder s = new StringBuilder(m.getReturnType().getName()).append(' ').append(m.getName()).append('(');
            for (int i = 0; i < m.getParameterCount(); i++) s.append(i > 0 ? "," : "").append(m.getParameterTypes()[i].getName());
            seen.add(s.append(')').toString());
            names.add(m.getName());
            say(Modifier.isPublic(m.getModifiers()) && !Modifier.isStatic(m.getModifiers()), "1: a member that is not public: " + m);
        }
        say(seen.equals(due), "1: the face is " + seen);
        for (Field f : c.getDeclaredFields()) {
            say(Modifier.isPrivate(f.getModifiers()) || f.getName().equals("NONE"), "1: a field that can be seen: " + f);
            say(!Modifier.isStatic(f.getModifiers()) || Modifier.isFinal(f.getModifiers()), "5: a static field that is not final: " + f);
        }
        Constructor<?>[] made = c.getDeclaredConstructors();
        say(made.length == 1 && made[0].getParameterCount() == 0 && Modifier.isPublic(made[0].getModifiers()), "1: the constructor");
        say(FuseTreaty.class.getField("NONE").getInt(null) == -1, "1: NONE");
        List<Class<?>> all = new java.util.ArrayList<>(Arrays.asList(c.getDeclaredClasses()));
        all.add(c);
        for (Class<?> k : all) {
            for (Method m : k.getDeclaredMethods()) {
                boolean ofFace = k == c && Modifier.isPublic(m.getModifiers());
                say(ofFace || !names.contains(m.getName()), "1: the name of a public method: " + m);
                say(m.getParameterCount() <= 7, "11: more than seven parameters: " + m);
            }
        }
    }

    private static void classesInside() {
        Class<?>[] inside = FuseTreaty.class.getDeclaredClasses();
        say(inside.length <= 12, "11: classes: " + inside.length);
        for (Class<?> k : inside) {
            say(Modifier.isStatic(k.getModifiers()), "2: a class inside that is not static: " + k);
            long own = Arrays.stream(k.getDeclaredFields()).filter(f -> !Modifier.isStatic(f.getModifiers())).count();
            say(own <= 20, "11: fields of " + k + ": " + own);
            say(k.getDeclaredClasses().length == 0, "2: a class in a class inside: " + k);
        }
    }

    private static void source(String text) {
        String code = text.replaceAll("(?s)/\\*.*?\\*/", " ").replaceAll("//[^\n]*", " ").replaceAll("\"[^\"\n]*\"", "\"\"");
        for (String word : new String[] {"throw", "throws", "try", "catch", "finally", "synchronized", "assert", "package", "native",
            "volatile", "transient", "goto", "var", "yield", "Object", "System.out", "hashCode", "toString", "Exact", "Random", "Thread"}) {
            say(!Pattern.compile("\\b" + Pattern.quote(word) + "\\b").matcher(code).find(), "3, 4, 6: the word " + word);
        }
        say(!code.contains("->") && !code.contains("::"), "2: a lambda, a method reference or an arrow");
        say(!Pattern.compile("\"\"\\s*\\+|\\+\\s*\"\"").matcher(code).find(), "10: texts joined by +");
        say(!Pattern.compile("while\\s*\\(\\s*true|for\\s*\\(\\s*;").matcher(code).find(), "9: a loop without an end");
        for (String line : text.split("\n")) {
            if (line.startsWith("import ")) say(line.equals("import java.util.Arrays;"), "4: " + line);
            boolean kept = line.matches("\\s*(private )?(static )?final [^;(]* = new .*;") || line.matches("\\s*this\\.\\w+ = new \\w+\\(\\w*\\);");
            say(!Pattern.compile("\\bnew\\b").matcher(line.replaceAll("//.*|/?\\*.*", "")).find() || kept,
                "12: something is made in a call: " + line.trim());
        }
        for (int i = 0; i < text.length(); i++) {
            char c = text.charAt(i);
            if (c != '\n' && (c < 32 || c > 126)) {
                say(false, "4: a sign that is none of 1 to 127, or no blank: " + (int) c);
                break;
            }
        }
        methodLengths(code);
    }

    private static void methodLengths(String code) {
        Matcher m = Pattern.compile("\n( {4}| {8})(?=\\S)(?!static final|private static final class|private final)[\\w\\[\\] ]+\\([^;{}]*\\) \\{\n").matcher(code);
        int count = 0;
        while (m.find()) {
            String close = "\n" + m.group(1) + "}";
            int end = code.indexOf(close, m.end() - 1);
            long lines = code.substring(m.start() + 1, Math.max(m.end(), end)).chars().filter(c -> c == '\n').count() + 1;
            say(end > 0 && lines <= 60, "11: a method of " + lines + " lines: " + m.group().trim());
            count++;
        }
        say(count > 100, "the methods are found: " + count);
    }
}
