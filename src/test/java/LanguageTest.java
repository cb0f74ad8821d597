import java.io.IOException;
import java.lang.reflect.Constructor;
import java.lang.reflect.Field;
import java.lang.reflect.Method;
import java.lang.reflect.Modifier;
import java.nio.file.Files;
import java.nio.file.Path;
import java.util.ArrayList;
import java.util.Arrays;
import java.util.List;
import java.util.Set;
import java.util.TreeSet;
import java.util.regex.Matcher;
import java.util.regex.Pattern;

/** The face of the class, and those rules of LANGUAGE.md that a look at the file can find broken. */
public final class LanguageTest {
    private static int wrong = 0;

    private static final String[] FACE = {
        "int room(int, int)", "int place(int, int)", "int things(int, int)", "int moon(int)", "int cord(int)",
        "int sleeper(int, int, int, int, int)", "int become(int, int, int)", "int type(int)", "int clear()",
        "int read()", "int pass(int)", "int undo()", "int about(int, int)", "int way(int, int)", "int bed()",
        "int tonight(int)", "int cost(int)", "int foretold(int, int, int)", "int worth(int)", "int reading(int)",
        "int waiting(int, int, int)", "int turns(int, int)", "int shoe(int, int, int)", "int clap(int, int, int)",
        "int asleep(int, int, int, int, int)", "int note(int, int)", "int burn()", "int who(int)",
        "int drawn(int, int, int)", "long part(int)", "int image(int)", "int from(int)", "int status(int)",
        "int count(int)", "long digest()",
    };

    private static void hold(boolean holds, String what) {
        if (!holds) {
            wrong++;
            System.out.println("not so: " + what);
        }
    }

    private static String signature(Method m) {
        List<String> types = new ArrayList<>();
        for (Class<?> t : m.getParameterTypes()) {
            types.add(t.getName());
        }
        return m.getReturnType().getName() + " " + m.getName() + "(" + String.join(", ", types) + ")";
    }

    private static void face() {
        Class<?> c = LastAwake.class;
        hold(Modifier.isPublic(c.getModifiers()) && Modifier.isFinal(c.getModifiers()), "the class is public and final");
        Set<String> seen = new TreeSet<>();
        for (Method m : c.getDeclaredMethods()) {
            if (!m.isSynthetic() && !Modifier.isPrivate(m.getModifiers())) {
                hold(Modifier.isPublic(m.getModifiers()) && !Modifier.isStatic(m.getModifiers()), m + " is of the face");
                seen.add(signature(m));
            }
        }
        hold(seen.equals(new TreeSet<>(Arrays.asList(FACE))), "the public methods are those of the document: " + seen);
        Constructor<?>[] made = c.getDeclaredConstructors();
        hold(made.length == 1 && made[0].getParameterCount() == 0 && Modifier.isPublic(made[0].getModifiers()),
            "there is one constructor, public, without parameters");
        Set<String> constants = new TreeSet<>();
        for (Field f : c.getDeclaredFields()) {
            if (!f.isSynthetic() && !Modifier.isPrivate(f.getModifiers())) {
                constants.add(f.getName());
            }
        }
        hold(constants.equals(new TreeSet<>(Arrays.asList("NONE", "BAD", "NO", "FULL"))), "the constants: " + constants);
    }

    private static void insides() {
        Set<String> names = new TreeSet<>();
        for (Method m : LastAwake.class.getDeclaredMethods()) {
            if (Modifier.isPublic(m.getModifiers())) {
                names.add(m.getName());
            }
        }
        List<Class<?>> all = new ArrayList<>();
        all.add(LastAwake.class);
        all.addAll(Arrays.asList(LastAwake.class.getDeclaredClasses()));
        hold(all.size() <= 12, "there are twelve classes at the most");
        for (Class<?> c : all) {
            if (c != LastAwake.class) {
                int mods = c.getModifiers();
                hold(Modifier.isStatic(mods) && !Modifier.isPublic(mods) && !Modifier.isProtected(mods), c + " is static and not public");
            }
            int fields = 0;
            for (Field f : c.getDeclaredFields()) {
                boolean isStatic = Modifier.isStatic(f.getModifiers());
                hold(!isStatic || Modifier.isFinal(f.getModifiers()), f + " is final");
                fields += isStatic ? 0 : 1;
            }
            hold(fields <= 20, c + " has twenty fields at the most");
            for (Method m : c.getDeclaredMethods()) {
                hold(m.getParameterCount() <= 7, m + " has seven parameters at the most");
                boolean ofTheFace = c == LastAwake.class && Modifier.isPublic(m.getModifiers());
                hold(ofTheFace || !names.contains(m.getName()), m + " has a name of its own");
            }
        }
    }

    private static String withoutCommentsAndTexts(String source) {
        return source.replaceAll("(?s)/\\*.*?\\*/", " ").replaceAll("//[^\n]*", " ").replaceAll("\"[^\"\n]*\"", "\"\"");
    }

    private static void source(String text) {
        String code = withoutCommentsAndTexts(text);
        String[] banned = {"throw", "throws", "try", "catch", "synchronized", "assert", "package", "float", "double",
            "hashCode", "toString", "Object", "var", "System\\.(?!arraycopy)\\w+", "\\w+Exact", "->", "::", "@\\w+", "while *\\( *true *\\)",
            "for *\\( *; *; *\\)", "String *\\[", "static *\\{"};
        for (String word : banned) {
            String edge = Character.isLetter(word.charAt(0)) ? "\\b" : "";
            hold(!Pattern.compile(edge + word).matcher(code).find() || isPartOfLonger(code, word), "no " + word + " in the file");
        }
        Matcher imports = Pattern.compile("import ([^;]*);").matcher(code);
        while (imports.find()) {
            hold(imports.group(1).equals("java.util.Arrays"), "no import of " + imports.group(1));
        }
        libraryIsTheListed(code);
        for (int i = 0; i < text.length(); i++) {
            hold(text.charAt(i) < 128, "all signs of the file are plain ones");
        }
        methodsAreShort(code);
    }

    private static final Set<String> LISTED = new TreeSet<>(Arrays.asList("Math.min", "Math.max", "Integer.bitCount",
        "Arrays.fill", "System.arraycopy"));

    /** What the class uses of the library; whoever uses more of what rule 4 lists adds it here. */
    private static void libraryIsTheListed(String code) {
        Matcher used = Pattern.compile("\\b[A-Z][a-z]\\w*\\.[a-z]\\w*").matcher(code.replaceAll("import [^;]*;", " "));
        while (used.find()) {
            hold(LISTED.contains(used.group()), "no " + used.group() + " in the file");
        }
    }

    private static boolean isPartOfLonger(String code, String word) {
        return word.matches("[a-zA-Z]+") && !Pattern.compile("\\b" + word + "\\b").matcher(code).find();
    }

    private static void methodsAreShort(String code) {
        String[] lines = code.split("\n", -1);
        int start = -1;
        String indent = "";
        for (int i = 0; i < lines.length; i++) {
            Matcher head = Pattern.compile("^( +)[\\w ]*[\\w\\]] \\w+\\([^;]*\\) \\{$|^( +)\\w+\\([^;]*\\) \\{$").matcher(lines[i]);
            if (head.find() && !lines[i].trim().matches("(if|for|while|switch|else|do)\\b.*")) {
                start = i;
                indent = head.group(1) != null ? head.group(1) : head.group(2);
            }
            if (start >= 0 && lines[i].equals(indent + "}")) {
                hold(i - start <= 60, "short enough: " + lines[start].trim());
                start = -1;
            }
        }
    }

    public static void main(String[] args) throws IOException {
        face();
        insides();
        source(Files.readString(Path.of("src/main/java/LastAwake.java")));
        System.out.println(wrong == 0 ? "the face and the file are as told" : wrong + " rules are broken");
        if (wrong != 0) {
            System.exit(1);
        }
    }
}
