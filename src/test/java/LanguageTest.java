import java.lang.reflect.Constructor;
import java.lang.reflect.Field;
import java.lang.reflect.Method;
import java.lang.reflect.Modifier;
import java.nio.charset.StandardCharsets;
import java.nio.file.Files;
import java.nio.file.Path;
import java.util.Arrays;
import java.util.List;
import java.util.Set;
import java.util.TreeSet;
import java.util.regex.Matcher;
import java.util.regex.Pattern;

/** The public face of the document, and what of LANGUAGE.md can be seen in the program's text. */
public final class LanguageTest {
    private static final List<String> FACE = Arrays.asList(
        "person(int)", "personIs(int,int)", "become(int,int)", "as(int,int)", "tells(int,int,int)",
        "rope(int,int)", "swim(int,int)", "saves(int)", "weather(int)", "feed(long,int)", "text(int)",
        "untell(int)", "law(int,int,int,int)", "days(int)", "loose(int)", "seed(int)", "then(int,int,int)",
        "cuts(int,int,int)", "hauls(int,int,int)", "party(int,int)", "speaks(int,int)", "odds(int,int,int)",
        "fits(int)", "voice(int,int,int)", "body(int)", "sheet(int,int,int)", "put(int,int,int)",
        "move(int,int,int,int,int)", "words(int,int)", "judge(int)", "image()", "restore()", "tell(int)",
        "check()", "count(int)", "told(int)");
    private static final Set<String> LIBRARY = new TreeSet<>(Arrays.asList(
        "System.arraycopy", "Math.min", "Math.max", "Integer.bitCount"));

    public static void main(String[] args) throws Exception {
        face();
        classes();
        String text = Files.readString(Path.of("src/main/java/RopeShore.java"), StandardCharsets.US_ASCII);
        words(bare(text));
        library(bare(text));
        roomIsMadeOnce(bare(text));
        lengths(text);
        Due.end("LanguageTest");
    }

    private static void face() throws Exception {
        Class<?> c = RopeShore.class;
        Due.is("rule 1: public and final", c.getModifiers(), Modifier.PUBLIC | Modifier.FINAL);
        Constructor<?>[] made = c.getDeclaredConstructors();
        Due.is("rule 1: constructors", made.length, 1);
        Due.is("rule 1: public constructor", made[0].getModifiers(), Modifier.PUBLIC);
        Due.is("rule 1: no arguments", made[0].getParameterCount(), 0);
        Set<String> open = new TreeSet<>();
        Set<String> names = new TreeSet<>();
        for (Method m : c.getDeclaredMethods()) {
            if (!Modifier.isPrivate(m.getModifiers())) {
                open.add(signature(m));
                names.add(m.getName());
                Due.is("rule 1: " + m, m.getModifiers(), Modifier.PUBLIC);
                Due.holds("rule 1: int " + m, m.getReturnType() == int.class);
            }
        }
        Due.holds("rule 1: the face " + open, open.equals(new TreeSet<>(FACE)));
        for (Method m : c.getDeclaredMethods()) {
            boolean hidden = Modifier.isPrivate(m.getModifiers());
            Due.holds("rule 1: name of " + m, !hidden || !names.contains(m.getName()));
        }
    }

    private static String signature(Method m) {
        StringBuilder s = new StringBuilder(m.getName()).append('(');
        for (Class<?> p : m.getParameterTypes()) {
            s.append(s.charAt(s.length() - 1) == '(' ? "" : ",").append(p.getName());
        }
        return s.append(')').toString();
    }

    private static void classes() {
        Class<?>[] inside = RopeShore.class.getDeclaredClasses();
        Due.holds("rule 11: classes", inside.length < 12);
        fields(RopeShore.class);
        for (Class<?> c : inside) {
            Due.holds("rule 1: private and static " + c, Modifier.isPrivate(c.getModifiers()) && Modifier.isStatic(c.getModifiers()));
            fields(c);
            for (Method m : c.getDeclaredMethods()) {
                Due.holds("rule 1: " + m, !Modifier.isPublic(m.getModifiers()));
                Due.holds("rule 11: parameters of " + m, m.getParameterCount() <= 7);
            }
        }
    }

    private static void fields(Class<?> c) {
        int own = 0;
        for (Field f : c.getDeclaredFields()) {
            boolean constant = Modifier.isStatic(f.getModifiers());
            own += constant ? 0 : 1;
            Due.holds("rule 5: " + f, !constant || Modifier.isFinal(f.getModifiers()));
            Due.holds("rule 1: " + f, Modifier.isPrivate(f.getModifiers()));
        }
        Due.holds("rule 11: fields of " + c, own <= 20);
    }

    /** Without comments, and with its characters and texts empty. */
    private static String bare(String text) {
        return text.replaceAll("(?s)/\\*.*?\\*/", "").replaceAll("//[^\n]*", "")
            .replaceAll("'(\\\\.|[^'\\\\])'", "' '").replaceAll("\"(\\\\.|[^\"\\\\])*\"", "\"\"");
    }

    private static void words(String text) {
        String not = "throw|throws|try|catch|finally|synchronized|assert|import|package|native|transient|volatile"
            + "|strictfp|float|double|var|yield|protected|interface|record|enum|while|goto|null|equals|hashCode|toString";
        Matcher m = Pattern.compile("\\b(" + not + ")\\b|->|::|@").matcher(text);
        Due.holds("rules 2 to 6: a word that stands in no rule, or isn't needed", !m.find());
        Due.holds("rule 1: ends as it began", text.trim().startsWith("public final class RopeShore {"));
    }

    private static void library(String text) {
        Matcher m = Pattern.compile("\\b([A-Z][A-Za-z]*[a-z][A-Za-z]*)\\.(\\w+)").matcher(text);
        while (m.find()) {
            Due.holds("rule 4: " + m.group(), LIBRARY.contains(m.group()));
        }
    }

    /** All objects and rows are made by fields, so that no call takes of the room. */
    private static void roomIsMadeOnce(String text) {
        String[] lines = text.split("\n");
        int made = 0;
        for (int i = 0; i < lines.length; i++) {
            if (lines[i].contains("new ")) {
                String whole = lines[i].contains(" = ") ? lines[i] : lines[i - 1];
                made++;
                Due.holds("rule 12: " + lines[i], whole.trim().startsWith("private "));
            }
        }
        Due.holds("rule 12: what is made was seen", made > 10);
    }

    private static void lengths(String text) {
        String[] lines = text.split("\n");
        int from = 0;
        for (int i = 0; i < lines.length; i++) {
            boolean begins = lines[i].matches(" {4}( {4})?[a-z].*\\) \\{");
            from = begins ? i : from;
            Due.holds("rule 11: line " + (i + 1), i - from <= 60 || !lines[i].matches(" {4}( {4})?\\}"));
            Due.holds("a short line: " + (i + 1), lines[i].length() <= 110);
        }
    }
}
