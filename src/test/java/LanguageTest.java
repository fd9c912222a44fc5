import java.nio.file.Files;
import java.nio.file.Path;
import java.util.regex.Matcher;
import java.util.regex.Pattern;

/** Looks for what LANGUAGE.md rules out, as far as a search of the text can tell. */
public final class LanguageTest {
    private static final String[] FORBIDDEN = {
        "\\bthrow\\b", "\\btry\\b", "\\bcatch\\b", "\\bsynchronized\\b", "\\bassert\\b", "->", "::",
        "\\bprotected\\b", "Exact\\b", "\\bimport\\b", "\\bpackage\\b", "\\+ \"", "\" \\+", "\\bObject\\b", "\\bvar\\b",
        "\\bnew Random\\b", "System\\.(?!arraycopy)", "\\bhashCode\\b", "\\btoString\\b", "\\bstatic \\{"};
    private static final String FACE = " feed end town law fault about thing ruled add gone apart between grown bars bar goes"
        + " pays first may spots spot wish forget plan blame fewest fenced smells beside moved movedTo quiet room by days feud"
        + " count image again ";

    public static void main(String[] args) throws Exception {
        Checks c = new Checks();
        String text = Files.readString(Path.of("src/main/java/FarTown.java"));
        String code = text.replaceAll("/\\*\\*[\\s\\S]*?\\*/", "").replaceAll("//[^\\n]*", "");
        for (String bad : FORBIDDEN) {
            c.due("times of " + bad, times(code, bad), 0);
        }
        for (int i = 0; i < text.length(); i++) {
            if (text.charAt(i) > 126) {
                c.due("sign at " + i, text.charAt(i), ' ');
            }
        }
        c.due("public things: the class, the constant, the constructor, 39 methods", times(code, "\\bpublic\\b"), 42);
        Matcher m = Pattern.compile("\\n {4,8}(?!public|return|else)(?:private |static |final )*[\\w\\[\\]]+ (\\w+)\\(([^)]*)\\) \\{").matcher(code);
        while (m.find()) {
            c.due("own method with a name of the face: " + m.group(1), FACE.contains(" " + m.group(1) + " "), false);
        }
        m = Pattern.compile("\\n {4,8}[\\w\\[\\] ]+\\(([^)]*)\\) \\{").matcher(code);
        while (m.find()) {
            c.due("parameters of " + m.group().trim(), m.group(1).split(",").length <= 7, true);
        }
        m = Pattern.compile("\\n( {4}| {8})(?! )[\\w\\[\\] ]+\\([^)]*\\) \\{\\n[\\s\\S]*?\\n\\1\\}").matcher(code);
        while (m.find()) {
            int lines = m.group().trim().split("\n").length;
            c.due("lines of " + m.group().trim().split("\n")[0], lines <= 60, true);
            c.due("objects made by " + m.group().trim().split("\n")[0], mayMake(m.group().trim()) || times(m.group(), "\\bnew\\b") == 0, true);
        }
        c.due("classes, twelve at most", times(code, "\\bclass \\w+ \\{") <= 12, true);
        c.finish();
    }

    /** A run's room is one for all its calls, so objects are made by constructors alone, and by image() once for each k. */
    private static boolean mayMake(String method) {
        String head = method.split("\\(")[0];
        return head.matches("public boolean image|public FarTown|[A-Z]\\w+");
    }

    private static int times(String text, String pattern) {
        Matcher m = Pattern.compile(pattern).matcher(text);
        int n = 0;
        while (m.find()) {
            n++;
        }
        return n;
    }
}
