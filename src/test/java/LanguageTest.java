import java.io.IOException;
import java.nio.file.Files;
import java.nio.file.Path;
import java.util.regex.Matcher;
import java.util.regex.Pattern;

/** Rules of LANGUAGE.md that can be read off the program's text; the path of the program is the argument. */
public final class LanguageTest {
    private static final String[] RULED_OUT = {
        "\\bimport\\b(?!\\s+java\\.util\\.(ArrayList|List|Arrays|Iterator|NoSuchElementException);)",
        "^\\s*package\\b", "->", "::", "\\bcatch\\b", "\\bfinally\\b", "\\bsynchronized\\b", "\\bassert\\b",
        "\\bprotected\\b", "\\bstatic\\s*\\{", "Exact\\(", "\\bhashCode\\b", "\\btoString\\b", "\\bequals\\b",
        "\\bSystem\\.(?!arraycopy)", "\\bdouble\\b", "\\bfloat\\b", "[^\\x00-\\x7F]",
        "\\bthrow\\s+(?!new (IllegalStateException|IllegalArgumentException|IndexOutOfBoundsException)\\()",
    };

    public static void main(String[] args) throws IOException {
        String text = Files.readString(Path.of(args[0]));
        for (String ruledOut : RULED_OUT) {
            Matcher found = Pattern.compile(ruledOut, Pattern.MULTILINE).matcher(text);
            Probe.same("the text, asked for " + ruledOut, "nothing", found.find() ? found.group() : "nothing");
        }
        Probe.end();
    }
}
