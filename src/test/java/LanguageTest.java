import java.lang.reflect.Constructor;
import java.lang.reflect.Field;
import java.lang.reflect.Method;
import java.lang.reflect.Modifier;
import java.nio.charset.StandardCharsets;
import java.nio.file.Files;
import java.nio.file.Path;
import java.util.Set;
import java.util.TreeSet;
import java.util.regex.Matcher;
import java.util.regex.Pattern;

/** The face of the class, and what of LANGUAGE.md can be told from its text. */
public final class LanguageTest {
    private static final String FACE =
            "boolean back(int)\nboolean burn(int)\nboolean end(int)\nboolean lend(int,int)\nboolean pass(int,int)\n"
            + "int again(int,int)\nint barred(int,int,int)\nint best(int,int,int,int,int)\nint copy(int,int,int)\n"
            + "int days(int)\nint fault(int)\nint feed(int,int,int,int,int)\nint gather(int,int,int,int)\n"
            + "int gathering(int,int)\nint held(int,int,int)\nint look(int)\nint of(int,int)\nint owners(int,int)\n"
            + "int rules()\nint seen(int,int,int)\nint thing(int,int,int,int,int)\n";
    private static final String[] RULED_OUT = {
        "throw", "throws", "try", "catch", "finally", "synchronized", "assert", "import", "package", "protected",
        "volatile", "transient", "native", "strictfp", "Object", "Exception", "System\\.(?!arraycopy)", "->", "::",
        "\\bhashCode", "\\btoString", "\\bequals", "getClass", "\\w+Exact", "static \\{"};

    public static void main(String[] args) throws Exception {
        face();
        String text = Files.readString(Path.of("src/main/java/TeaBook.java"), StandardCharsets.ISO_8859_1);
        ruledOut(withoutComments(text));
        shortMethods(text);
        Check.finish();
    }

    private static void face() throws Exception {
        Class<?> book = TeaBook.class;
        Check.due("public and final", true, Modifier.isPublic(book.getModifiers()) && Modifier.isFinal(book.getModifiers()));
        Set<String> seen = new TreeSet<>();
        for (Method m : book.getDeclaredMethods()) {
            if (Modifier.isPublic(m.getModifiers())) {
                StringBuilder s = new StringBuilder(m.getReturnType() + " " + m.getName() + "(");
                for (int i = 0; i < m.getParameterCount(); i++) {
                    s.append(i == 0 ? "" : ",").append(m.getParameterTypes()[i]);
                }
                seen.add(s + ")\n");
            } else {
                Check.due(m + " is private", true, Modifier.isPrivate(m.getModifiers()));
                Check.due(m + " bears no public name", false, FACE.contains(" " + m.getName() + "("));
            }
        }
        Check.due("the face: " + seen, true, String.join("", seen).equals(FACE));
        Constructor<?>[] made = book.getDeclaredConstructors();
        Check.due("one public constructor", true, made.length == 1 && Modifier.isPublic(made[0].getModifiers()));
        for (Field f : book.getDeclaredFields()) {
            boolean none = f.getName().equals("NONE") && f.getModifiers() == (Modifier.PUBLIC | Modifier.STATIC | Modifier.FINAL);
            Check.due(f + " is NONE or private", true, none || Modifier.isPrivate(f.getModifiers()));
        }
        Check.due("NONE", -1, TeaBook.NONE);
        inside(book);
    }

    private static void inside(Class<?> book) {
        Check.due("at most twelve classes", true, book.getDeclaredClasses().length + 1 <= 12);
        for (Class<?> c : book.getDeclaredClasses()) {
            Check.due(c + " is static", true, Modifier.isStatic(c.getModifiers()));
            Check.due(c + " is not public", false, Modifier.isPublic(c.getModifiers()));
            int fields = 0;
            for (Field f : c.getDeclaredFields()) {
                Check.due(f + " is no changing static", true, !Modifier.isStatic(f.getModifiers()) || Modifier.isFinal(f.getModifiers()));
                fields += Modifier.isStatic(f.getModifiers()) ? 0 : 1;
            }
            Check.due(c + " has at most twenty fields", true, fields <= 20);
            for (Method m : c.getDeclaredMethods()) {
                Check.due(m + " takes at most seven", true, m.getParameterCount() <= 7);
                Check.due(m + " bears no public name", false, FACE.contains(" " + m.getName() + "("));
            }
        }
    }

    private static String withoutComments(String text) {
        return text.replaceAll("(?s)/\\*.*?\\*/", "").replaceAll("//.*", "");
    }

    private static void ruledOut(String text) {
        for (String word : RULED_OUT) {
            String bounded = word.matches("\\w+") ? "\\b" + word + "\\b" : word;
            Matcher m = Pattern.compile(bounded).matcher(text);
            Check.due("the text has " + word, false, m.find());
        }
        Check.due("texts joined by +", false, Pattern.compile("\"\\s*\\+|\\+\\s*\"").matcher(text).find());
    }

    /** A method begins at a line that ends in ") {" with its indent, and ends at that indent's "}". */
    private static void shortMethods(String text) {
        String[] lines = text.split("\n");
        for (int from = 0; from < lines.length; from++) {
            Matcher m = Pattern.compile("^( {4}| {8})(?! )\\w.*\\) \\{$").matcher(lines[from]);
            boolean method = m.find() && !lines[from].trim().matches("(if|for|while|switch)\\b.*");
            int to = from;
            while (method && !lines[to].equals(m.group(1) + "}")) {
                to++;
            }
            Check.due("line " + (from + 1) + " begins a long method", true, to - from < 60);
        }
    }
}
