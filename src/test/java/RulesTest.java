import java.io.IOException;
import java.lang.reflect.Field;
import java.lang.reflect.Method;
import java.lang.reflect.Modifier;
import java.nio.file.Files;
import java.nio.file.Path;
import java.util.HashSet;
import java.util.List;
import java.util.Set;
import java.util.regex.Matcher;
import java.util.regex.Pattern;

/** What of ../shared/LANGUAGE.md a program can look for; it is run from the project's folder. */
public final class RulesTest {
    private static final List<String> FACE = List.of("turn", "leads", "man", "smell", "allow", "teach", "mislead", "drink", "sing", "tie", "smelt",
        "tried", "night", "winters", "feed", "end", "text", "fault", "by", "played", "undo", "of", "hand", "ofTurn", "foretold", "free", "lasts",
        "wrongs", "done", "sets", "shammed", "halves", "back", "fewSmells", "trial", "told", "spies", "sold", "image", "again", "about");

    public static void main(String[] args) throws IOException {
        face();
        classes();
        source(Files.readString(Path.of("src/main/java/UnlearnedHand.java")));
        room();
        Due.end();
    }

    private static void face() {
        Set<String> seen = new HashSet<>();
        for (Method m : UnlearnedHand.class.getDeclaredMethods()) {
            boolean isPublic = Modifier.isPublic(m.getModifiers());
            Due.is("rule 1: " + m, isPublic || Modifier.isPrivate(m.getModifiers()), true);
            Due.is("rule 1: name of " + m, FACE.contains(m.getName()), isPublic);
            Due.is("rule 1: twice " + m, isPublic && !seen.add(m.getName()), false);
        }
        Due.is("the whole face", seen.size(), FACE.size());
        for (Field f : UnlearnedHand.class.getDeclaredFields()) {
            Due.is("rule 1: " + f, Modifier.isPrivate(f.getModifiers()) || f.getName().equals("NONE"), true);
        }
        Due.is("rule 1: final", Modifier.isFinal(UnlearnedHand.class.getModifiers()), true);
        Due.is("one constructor", UnlearnedHand.class.getConstructors().length, 1);
    }

    private static void classes() {
        Class<?>[] inside = UnlearnedHand.class.getDeclaredClasses();
        Due.is("rule 11: some twelve classes", inside.length + 1 <= 12, true);
        look(UnlearnedHand.class);
        for (Class<?> c : inside) {
            look(c);
            Due.is("rule 2: static " + c, Modifier.isStatic(c.getModifiers()), true);
            for (Method m : c.getDeclaredMethods()) {
                Due.is("rule 1: a name of the face " + m, FACE.contains(m.getName()), false);
            }
        }
    }

    private static void look(Class<?> c) {
        int fields = 0;
        for (Field f : c.getDeclaredFields()) {
            boolean isStatic = Modifier.isStatic(f.getModifiers());
            fields += isStatic ? 0 : 1;
            Due.is("rule 5: " + f, isStatic && !Modifier.isFinal(f.getModifiers()), false);
        }
        Due.is("rule 11: some twenty fields of " + c, fields <= 20, true);
        for (Method m : c.getDeclaredMethods()) {
            Due.is("rule 11: seven parameters of " + m, m.getParameterCount() <= 7, true);
        }
    }

    private static void source(String source) {
        String code = source.replaceAll("(?s)/\\*.*?\\*/", "").replaceAll("//[^\n]*", "").replaceAll("\"[^\"]*\"", "\"\"");
        String[] none = {"throw", "throws", "try", "catch", "finally", "synchronized", "assert", "import", "package", "instanceof", "enum", "record",
            "System\\.out", "Exact", "getClass", "hashCode", "toString", "goto", "static\\s*\\{", "->", "::", "\"\\s*\\+", "\\+\\s*\"", "@"};
        for (String word : none) {
            String pattern = Character.isLetter(word.charAt(0)) ? "\\b" + word + (word.endsWith("{") ? "" : "\\b") : word;
            Matcher m = Pattern.compile(pattern).matcher(code);
            Due.is("rules 2, 4 and 6: " + word, m.find(), false);
        }
        Matcher uses = Pattern.compile("\\b(Math|Integer|Long|System|Arrays)\\.(\\w+)").matcher(code);
        while (uses.find()) {
            Due.is("rule 4: " + uses.group(), List.of("Math.max", "Math.min", "Integer.bitCount", "System.arraycopy").contains(uses.group()), true);
        }
        for (int i = 0; i < source.length(); i++) {
            if (source.charAt(i) > 126) {
                Due.is("a sign above 126 at " + i, false, true);
            }
        }
        lengths(code);
    }

    private static void lengths(String code) {
        String[] lines = code.split("\n");
        int start = 0;
        for (int i = 0; i < lines.length; i++) {
            if (lines[i].matches("(    |        )[\\w].*\\(.*\\{")) {
                start = i;
            } else if (lines[i].matches("(    |        )\\}")) {
                Due.is("rule 11: a long method at line " + start, i - start > 60 && lines[start].contains("("), false);
                start = i;
            }
        }
    }

    /** Rule 12: calls make no objects; all rows are made in constructors. */
    private static void room() {
        com.sun.management.ThreadMXBean bean = (com.sun.management.ThreadMXBean) java.lang.management.ManagementFactory.getThreadMXBean();
        UnlearnedHand x = new UnlearnedHand();
        busy(x);
        long ahead = bean.getCurrentThreadAllocatedBytes();
        UnlearnedHand y = new UnlearnedHand();
        long made = bean.getCurrentThreadAllocatedBytes() - ahead;
        Due.is("a new object's bytes: " + made, made < 100000, true);
        ahead = bean.getCurrentThreadAllocatedBytes();
        for (int i = 0; i < 20; i++) {
            busy(y);
        }
        made = bean.getCurrentThreadAllocatedBytes() - ahead;
        Due.is("bytes made by calls: " + made, made < 10000, true);
    }

    private static void busy(UnlearnedHand x) {
        x.again();
        x.turn(4);
        x.turn(5);
        x.leads(0, 1);
        x.man(3);
        x.man(4);
        x.smell(1);
        x.allow(0);
        // "has right>wrong+root turn;" by hand, so that no text is made here.
        x.feed(0x68617320, 0x72696768, 0x743e7772, 0x6f6e672b, 0x726f6f74);
        x.feed(0x20747572, 0x6e3b7465, 0x61636820, 0x3020696e, 0x20302062);
        x.feed(0x7920393b, 0x20202020, 0x20202020, 0x20202020, 0x20202020);
        x.by(x.text());
        x.played(0);
        x.teach(0, 0, 50);
        x.teach(1, 1, 60);
        x.mislead(0, 0, 9);
        x.drink(0);
        x.sing(0, 1, true);
        x.tie(0, 1);
        x.smelt(0, 0);
        x.night(20);
        x.winters(5, 30);
        x.foretold(60, 0);
        x.free(60, 0);
        x.lasts(0, 0);
        x.wrongs(0, 4, 50, 0, 1);
        x.done(0, true);
        x.sets(false, -1);
        x.shammed(0, 3, 4, true);
        x.halves(0, 1, 2);
        x.back(1);
        x.fewSmells(1);
        x.trial(0, 3, -2);
        x.told(3, -1);
        x.spies(3);
        x.sold(3);
        x.undo();
        x.tried(0);
        x.about(3);
    }
}
