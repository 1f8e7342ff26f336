import java.io.File;
import java.lang.reflect.Field;
import java.lang.reflect.Method;
import java.lang.reflect.Modifier;
import java.nio.file.Files;
import java.nio.file.Path;
import java.util.HashSet;
import java.util.List;
import java.util.Set;
import java.util.regex.Pattern;

/** The rules of LANGUAGE.md that can be seen from the source's words and from the class's members. */
public final class LanguageTest {
    private static final Path SOURCE = Path.of("src/main/java/ReferredNames.java");
    private static final int MOST_PARAMETERS = 7;
    private static final int MOST_FIELDS = 20;
    private static final int MOST_LINES = 60;

    private static final List<String> RULED_OUT = List.of(
            "\\bpackage\\b", "\\bimport\\b", "\\bjava\\s*\\.", "\\bthrow\\b", "\\bthrows\\b", "\\btry\\b", "\\bcatch\\b",
            "\\bsynchronized\\b", "\\bassert\\b", "\\bvolatile\\b", "\\bnative\\b", "\\bSystem\\s*\\.(?!\\s*arraycopy\\b)",
            "\\bThread\\b", "\\bRandom\\b", "\\brandom\\b", "\\w+Exact\\b", "->", "::", "\\bhashCode\\b", "\\btoString\\b",
            "static\\s*\\{");

    public static void main(String[] args) throws Exception {
        String code = withoutRemarks(Files.readString(SOURCE));
        noWordThatIsRuledOut(code);
        methodsAreShort(code.split("\n"));
        oneFileAlone();
        noPrivateMethodWithAPublicName();
        fewParameters();
        fewFieldsAndNoStaticState();
        Due.end();
    }

    private static String withoutRemarks(String source) {
        return source.replaceAll("(?s)/\\*.*?\\*/", "").replaceAll("//[^\n]*", "");
    }

    // Rules 2, 4, 6 and 13: what the class may not use
    private static void noWordThatIsRuledOut(String code) {
        for (String word : RULED_OUT) {
            Due.is("LANGUAGE.md: has " + word, Pattern.compile(word).matcher(code).find(), false);
        }
    }

    // Rule 11: "Methods stay short (some sixty lines)"
    private static void methodsAreShort(String[] lines) {
        int from = 0;
        for (int k = 0; k < lines.length; k++) {
            if (lines[k].matches(" {4}\\S.*\\{")) {
                from = k;
            } else if (lines[k].equals("    }")) {
                Due.is("LANGUAGE.md rule 11: short is" + lines[from], k - from < MOST_LINES, true);
            }
        }
    }

    // "The program is one file"
    private static void oneFileAlone() {
        String[] files = SOURCE.getParent().toFile().list();
        Due.is("LANGUAGE.md: files of the program", files == null ? 0 : files.length, 1);
        Due.is("LANGUAGE.md: nothing beside it", new File("src/main").list().length, 1);
    }

    // Rule 1: "No private method bears the name of a public one."
    private static void noPrivateMethodWithAPublicName() {
        Set<String> open = new HashSet<>();
        for (Method m : ReferredNames.class.getDeclaredMethods()) {
            if (Modifier.isPublic(m.getModifiers())) {
                open.add(m.getName());
            }
        }
        for (Method m : ReferredNames.class.getDeclaredMethods()) {
            boolean bears = Modifier.isPrivate(m.getModifiers()) && open.contains(m.getName());
            Due.is("LANGUAGE.md rule 1: " + m + " bears a public one's name", bears, false);
        }
    }

    // Rule 11: "A method takes at most seven parameters."
    private static void fewParameters() {
        for (Method m : ReferredNames.class.getDeclaredMethods()) {
            Due.is("LANGUAGE.md rule 11: few are those of " + m, m.getParameterCount() <= MOST_PARAMETERS, true);
        }
    }

    // Rules 5 and 11: "Static fields are final", "a class some twenty fields beside its constants"
    private static void fewFieldsAndNoStaticState() {
        int fields = 0;
        for (Field f : ReferredNames.class.getDeclaredFields()) {
            if (Modifier.isStatic(f.getModifiers())) {
                Due.is("LANGUAGE.md rule 5: final is " + f, Modifier.isFinal(f.getModifiers()), true);
            } else {
                fields++;
            }
        }
        Due.is("LANGUAGE.md rule 11: few fields", fields <= MOST_FIELDS, true);
    }
}
