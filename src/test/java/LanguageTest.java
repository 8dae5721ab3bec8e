import java.io.IOException;
import java.nio.file.Files;
import java.nio.file.Path;
import java.util.regex.Matcher;
import java.util.regex.Pattern;

/** What a look at the text can tell of LANGUAGE.md: words and signs that the program does without. */
public final class LanguageTest {
    private static final String[] NEVER = {
        "\\bthrow\\b", "\\bthrows\\b", "\\btry\\b", "\\bcatch\\b", "\\bsynchronized\\b", "\\bassert\\b", "->", "::",
        "\\bpackage\\b", "\\bvar\\b", "\\byield\\b", "\\bSystem\\.(?!arraycopy\\b)", "\\bThread\\b", "\\bRandom\\b",
        "\\bprotected\\b", "\\bnative\\b", "\\bvolatile\\b", "\\btransient\\b", "\\bstatic\\s*\\{", "@",
        "\\bequals\\b", "\\bhashCode\\b", "\\btoString\\b", "Exact\\b", "\\.values\\(\\)", "[^\\x00-\\x7f]", "\\bimport\\b",
        "\\bString\\b", "\\bdouble\\b", "\\bfloat\\b", "\\bObject\\b", "\\bextends\\b", "while \\(true\\)"};
    private static final int MOST_LINES = 60;

    private static String withoutComments(String text) {
        return Pattern.compile("/\\*.*?\\*/", Pattern.DOTALL).matcher(text).replaceAll("").replaceAll("//[^\n]*", "");
    }

    private static void words(String code) {
        for (String never : NEVER) {
            Matcher found = Pattern.compile(never).matcher(code);
            Check.due("the program has " + never, found.find() ? 1 : 0, 0);
        }
        Matcher used = Pattern.compile("\\b(Long|Math|Integer|Arrays)\\.(\\w+)").matcher(code);
        while (used.find()) {
            String name = used.group(1) + "." + used.group(2);
            Check.due(name + " is in the library", name.matches("Long\\.bitCount|Math\\.(max|min|abs)") ? 1 : 0, 1);
        }
    }

    private static void lengths(String text) {
        String[] lines = text.split("\n");
        int from = -1;
        for (int i = 0; i < lines.length; i++) {
            boolean begins = lines[i].matches("(    |        )(public |private |static |final )*[\\w\\[\\]]+ \\w+\\(.*\\{");
            if (begins) from = i;
            boolean ends = lines[i].equals("    }") || lines[i].equals("        }");
            if (ends && from >= 0) {
                Check.due("lines of " + lines[from].trim(), i - from + 1 <= MOST_LINES ? 1 : 0, 1);
                from = -1;
            }
        }
    }

    public static void main(String[] args) throws IOException {
        String text = Files.readString(Path.of("src/main/java/HandsAndWays.java"));
        words(withoutComments(text));
        lengths(text);
        Check.end("LanguageTest");
    }
}
