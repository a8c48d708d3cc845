import java.io.IOException;
import java.lang.reflect.Field;
import java.lang.reflect.Method;
import java.lang.reflect.Modifier;
import java.nio.file.Files;
import java.nio.file.Path;
import java.util.ArrayList;
import java.util.List;
import java.util.Set;
import java.util.TreeSet;
import java.util.regex.Matcher;
import java.util.regex.Pattern;

/** Holds the class against what of LANGUAGE.md can be read from its text and its members. */
public final class LanguageTest {
    private static final Set<String> FACE = new TreeSet<>(Set.of(
        "row(3)", "set(3)", "copy(5)", "drop(1)", "feed(1)", "isle(0)", "fault(0)", "undo(0)", "hours(1)", "bid(2)",
        "raise(2)", "give(3)", "bidder(2)", "cell(2)", "price(2)", "ahead(2)", "stays(1)", "when(2)", "cuts(0)",
        "home(2)", "buy(2)", "harvest(3)", "raised(3)", "who(3)", "ring(2)", "purses(5)", "drawn(3)", "image(1)",
        "restore(1)", "kind(1)", "as(2)", "ask(2)", "trace(1)", "count(1)", "status(0)"));
    private static final Check C = new Check();

    public static void main(String[] args) throws IOException {
        String source = Files.readString(Path.of("src/main/java/TideInches.java"));
        faceStands();
        classesStand();
        wordsStand(bare(source));
        methodsAreShort(source);
        C.end();
    }

    private static void no(String fault) {
        C.due(fault, 1, 0);
    }

    private static void faceStands() {
        Class<?> c = TideInches.class;
        C.due("public and final", c.getModifiers(), Modifier.PUBLIC | Modifier.FINAL);
        C.due("no package", c.getPackageName().isEmpty() ? 1 : 0, 1);
        C.due("constructors", c.getDeclaredConstructors().length, 1);
        C.due("public constructors", c.getConstructors().length, 1);
        Set<String> found = new TreeSet<>();
        Set<String> names = new TreeSet<>();
        for (String call : FACE) {
            names.add(call.substring(0, call.indexOf('(')));
        }
        for (Method m : c.getDeclaredMethods()) {
            if (Modifier.isPrivate(m.getModifiers())) {
                if (names.contains(m.getName())) {
                    no("private method with a public name: " + m.getName());
                }
                continue;
            }
            C.due("public: " + m.getName(), m.getModifiers(), Modifier.PUBLIC);
            C.due("int: " + m.getName(), m.getReturnType() == int.class ? 1 : 0, 1);
            found.add(m.getName() + "(" + m.getParameterCount() + ")");
        }
        if (!found.equals(FACE)) {
            no("another face: " + found);
        }
        Set<String> constants = new TreeSet<>();
        for (Field f : c.getDeclaredFields()) {
            if (!Modifier.isPrivate(f.getModifiers())) {
                C.due("constant: " + f.getName(), f.getModifiers(), Modifier.PUBLIC | Modifier.STATIC | Modifier.FINAL);
                constants.add(f.getName());
            }
        }
        C.due("constants", constants.equals(Set.of("NONE", "BAD", "STATE", "FULL")) ? 1 : 0, 1);
    }

    private static void classesStand() {
        List<Class<?>> all = new ArrayList<>(List.of(TideInches.class.getDeclaredClasses()));
        all.add(TideInches.class);
        C.due("some twelve classes", all.size() <= 12 ? 1 : 0, 1);
        for (Class<?> c : all) {
            if (c != TideInches.class) {
                C.due("static: " + c, Modifier.isStatic(c.getModifiers()) ? 1 : 0, 1);
                C.due("not public: " + c, c.getModifiers() & (Modifier.PUBLIC | Modifier.PROTECTED), 0);
                C.due("none inside: " + c, c.getDeclaredClasses().length, 0);
            }
            int fields = 0;
            for (Field f : c.getDeclaredFields()) {
                if (!Modifier.isStatic(f.getModifiers())) {
                    fields++;
                } else if (!Modifier.isFinal(f.getModifiers())) {
                    no("static state: " + f);
                }
            }
            C.due("some twenty fields: " + c, fields <= 20 ? 1 : 0, 1);
            for (Method m : c.getDeclaredMethods()) {
                if (m.getParameterCount() > 7) {
                    no("more than seven: " + m);
                }
                if (Set.of("equals", "hashCode", "toString").contains(m.getName())) {
                    no(m.toString());
                }
            }
        }
    }

    /** The text without comments and what stands in quotes. */
    private static String bare(String source) {
        return source.replaceAll("(?s)/\\*.*?\\*/", " ").replaceAll("//[^\n]*", " ")
            .replaceAll("\"[^\"\n]*\"", "\"\"").replaceAll("'[^'\n]+'", "''");
    }

    private static void wordsStand(String text) {
        String[] words = {
            "throw", "throws", "try", "catch", "finally", "synchronized", "assert", "import", "package", "instanceof",
            "record", "volatile", "native", "transient", "strictfp", "Object", "Thread", "System\\.(?!arraycopy)\\w+",
            "\\w+Exact", "Random", "Integer\\.(?!bitCount\\b)\\w+", "Math\\.(?!min\\b|max\\b)\\w+", "Override"};
        for (String word : words) {
            Matcher m = Pattern.compile("\\b" + word + "\\b").matcher(text);
            if (m.find()) {
                no("a word that is ruled out: " + m.group());
            }
        }
        for (String sign : new String[] {"->", "::", "@", "\"\" +", "+ \"\"", "var "}) {
            if (text.contains(sign)) {
                no("a sign that is ruled out: " + sign);
            }
        }
        // No call makes an object: all is made by constructors, and used again.
        Matcher m = Pattern.compile("^(?!.*\\bfinal\\b)(?! {8}\\w+ = new \\w+\\(\\);).*\\bnew\\b.*$", Pattern.MULTILINE)
            .matcher(text);
        if (m.find()) {
            no("made by a call: " + m.group().trim());
        }
    }

    private static void methodsAreShort(String source) {
        int begun = 0;
        int at = 0;
        for (String line : source.split("\n", -1)) {
            at++;
            if (line.matches("( {4}| {8})\\S.*\\) \\{")) {
                begun = at;
            }
            if (line.matches("( {4}| {8})\\}") && begun > 0) {
                if (at - begun > 60) {
                    no("a long method from line " + begun);
                }
                begun = 0;
            }
            if (line.length() > 120) {
                no("a long line: " + at);
            }
        }
        C.due("signs are 1 to 127", source.chars().allMatch(c -> c < 128) ? 1 : 0, 1);
    }
}
