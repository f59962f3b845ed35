import java.io.IOException;
import java.lang.reflect.Field;
import java.lang.reflect.Method;
import java.lang.reflect.Modifier;
import java.nio.file.Files;
import java.nio.file.Path;
import java.util.ArrayList;
import java.util.Arrays;
import java.util.List;
import java.util.TreeSet;
import java.util.regex.Matcher;
import java.util.regex.Pattern;

/** The public face, and such rules of LANGUAGE.md as can be read off the source. */
public final class LanguageTest {
    private static final Due due = new Due("LanguageTest");
    private static final String[] FACE = {
        "int robe(int, int, int)", "int saying(int, int, int, int)", "int occasion(int, int)", "int say(int)",
        "int wipe()", "int fault()", "int judge(int)", "int done()", "int behind(int, int)", "int untrue(int)",
        "int eaten(int)", "int blame(int, int)", "int cuts(int, int, int, int, int)", "int wear(int)",
        "int seen(int, boolean)", "int forget()", "int liars(int, int)", "int tries(int, int)",
        "int darns(int, int)", "long chance(int, int, int, int)", "int year(int, int, int)", "int image(int)",
        "int restore(int)", "int told(int)"
    };

    public static void main(String[] args) throws IOException {
        constants();
        face();
        String source = Files.readString(Path.of(args[0]));
        words(source);
        objectsMade(source);
        lengths(source);
        due.end();
    }

    private static void constants() {
        due.is("NONE", MothAudit.NONE, -6);
        due.is("UNKNOWN", MothAudit.UNKNOWN, -1);
        due.is("OUTSIDE", MothAudit.OUTSIDE, -2);
        due.is("STATE", MothAudit.STATE, -3);
        due.is("FULL", MothAudit.FULL, -4);
        due.is("NO", MothAudit.NO, -5);
        due.is("LOST", MothAudit.LOST, -1000000000000000000L);
    }

    private static void face() {
        TreeSet<String> methods = new TreeSet<>();
        TreeSet<String> names = new TreeSet<>();
        for (Method method : MothAudit.class.getDeclaredMethods()) {
            if (Modifier.isPrivate(method.getModifiers())) {
                continue;
            }
            String types = Arrays.toString(method.getParameterTypes()).replace("[", "(").replace("]", ")");
            methods.add(method.getReturnType() + " " + method.getName() + types);
            names.add(method.getName());
            due.that("public: " + method, Modifier.isPublic(method.getModifiers()));
        }
        due.that("rule 1: the face is " + methods, methods.equals(new TreeSet<>(Arrays.asList(FACE))));
        due.that("rule 1: final", Modifier.isFinal(MothAudit.class.getModifiers()));
        due.is("rule 1: constructors", MothAudit.class.getDeclaredConstructors().length, 1);
        TreeSet<String> fields = new TreeSet<>();
        for (Field field : MothAudit.class.getDeclaredFields()) {
            if (!Modifier.isPrivate(field.getModifiers())) {
                fields.add(field.getName());
            }
        }
        due.that("rule 1: constants are " + fields, fields.equals(new TreeSet<>(
                Arrays.asList("NONE", "UNKNOWN", "OUTSIDE", "STATE", "FULL", "NO", "LOST"))));
        due.that("rule 11: classes", MothAudit.class.getDeclaredClasses().length <= 12);
        for (Class<?> inside : MothAudit.class.getDeclaredClasses()) {
            due.that("rule 1: private and static: " + inside, Modifier.isPrivate(inside.getModifiers())
                    && Modifier.isStatic(inside.getModifiers()));
            for (Method method : inside.getDeclaredMethods()) {
                due.that("rule 1: a name of the face: " + method, !names.contains(method.getName()));
                due.that("rule 11: parameters: " + method, method.getParameterCount() <= 7);
            }
            for (Field field : inside.getDeclaredFields()) {
                due.that("rule 5: static is final: " + field, !Modifier.isStatic(field.getModifiers())
                        || Modifier.isFinal(field.getModifiers()));
            }
        }
    }

    private static String withoutComments(String source) {
        return source.replaceAll("(?s)/\\*.*?\\*/", "").replaceAll("//[^\n]*", "");
    }

    private static void words(String source) {
        String code = withoutComments(source);
        String[] banned = {
            "import", "package", "throw", "try", "catch", "synchronized", "assert", "instanceof", "protected",
            "volatile", "transient", "native", "strictfp", "double", "float", "String", "System\\.(?!arraycopy)",
            "Thread", "Random", "Exact", "->", "::", "goto", "\\?>", "while", "@"
        };
        for (String word : banned) {
            boolean letters = Character.isLetter(word.charAt(0));
            Matcher found = Pattern.compile(letters && word.matches("\\w+") ? "\\b" + word + "\\b" : word).matcher(code);
            due.that("a word that is not used: " + word, !found.find());
        }
        due.that("plain signs only", source.chars().allMatch(c -> c == '\n' || c >= 32 && c < 127));
    }

    /** Objects are made in fields, and once for each image: so no call makes any in a loop. */
    private static void objectsMade(String source) {
        List<String> others = new ArrayList<>();
        for (String line : withoutComments(source).split("\n")) {
            boolean made = line.matches(".*\\bnew\\b.*");
            if (made && !line.matches("\\s*(private )?final .*;") && !line.trim().equals("kept = new Wardrobe();")) {
                others.add(line);
            }
        }
        due.that("rule 12: objects made elsewhere: " + others, others.isEmpty());
    }

    private static void lengths(String source) {
        String[] lines = source.split("\n");
        int start = 0;
        for (int i = 0; i < lines.length; i++) {
            due.that("line length: " + (i + 1), lines[i].length() <= 120);
            if (lines[i].matches(" {4}( {4})?\\S.*\\(.*\\) \\{")) {
                start = i;
            }
            if (lines[i].matches(" {4}( {4})?\\}")) {
                due.that("rule 11: a method's length, line " + (start + 1), i - start <= 60 || start == 0);
            }
        }
    }
}
