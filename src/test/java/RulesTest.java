import java.io.IOException;
import java.lang.reflect.Constructor;
import java.lang.reflect.Field;
import java.lang.reflect.Method;
import java.lang.reflect.Modifier;
import java.nio.file.Files;
import java.nio.file.Path;
import java.util.ArrayList;
import java.util.List;
import java.util.Set;
import java.util.TreeSet;
import java.util.regex.Matcher;
import java.util.regex.Pattern;

/** The face of the document, and those rules of LANGUAGE.md that can be seen from outside or by the file's words. */
public final class RulesTest {
    private static final Path FILE = Path.of("src/main/java/LaidOutBoxes.java");
    private static final String[] FACE = {
        "int comes(int,int,int,int,int,int)", "int tells(int,int,int)", "int drops(int)", "int moves(int,int)",
        "int screen(int,int)", "int of(int,int)", "int child(int,int)", "int letter(int)", "int reads(int)",
        "int printed(int,int)", "int lays()", "int at(int,int)", "int bounds(int,int)", "int asks(int,int)",
        "int hit(int,int)", "int told(int)", "int agrees()", "int narrowest()", "int tall(int)",
        "int reached(int,int)", "int bestShare(int,int)", "int fits(int,int)", "int plan(int,int)", "int saved()",
        "long likely(int,int)", "int drawn(int)", "int seed(int)", "long mean(int)", "int taken(int,int)",
        "int judge(int,int)", "int tape(int,int,int)", "int item(int,int,long)", "long peek(int,int)",
        "int shift(int,int,int,int,int)", "int image()", "int undo()"};
    private static final String[] CONSTANTS = {"NONE", "BAD", "STATE", "FULL", "NO_SUCH", "NO"};
    private static final String[] FORBIDDEN = {"throw", "throws", "try", "catch", "finally", "synchronized", "assert",
        "protected", "volatile", "transient", "native", "Object", "System\\.(?!arraycopy)", "Thread", "Random",
        "java\\.(?!util\\.Arrays;)", "->", "::", "Math\\.\\w*Exact", "values\\(\\)", "\\bdo\\b", "equals",
        "hashCode", "toString", "@\\w+"};

    public static void main(String[] args) throws IOException {
        face();
        insideClasses();
        words();
        Check.end("the face and the rules");
    }

    private static void sameSet(String what, Set<String> got, Set<String> want) {
        Check.sameText(what, got.toString(), want.toString());
    }

    private static String signature(Method m) {
        List<String> types = new ArrayList<>();
        for (Class<?> type : m.getParameterTypes()) {
            types.add(type.getSimpleName());
        }
        return m.getReturnType().getSimpleName() + " " + m.getName() + "(" + String.join(",", types) + ")";
    }

    private static void face() {
        Class<?> c = LaidOutBoxes.class;
        Check.due("rule 1: public and final", c.getModifiers() & (Modifier.PUBLIC | Modifier.FINAL),
                Modifier.PUBLIC | Modifier.FINAL);
        Set<String> methods = new TreeSet<>();
        for (Method m : c.getDeclaredMethods()) {
            if (!Modifier.isPrivate(m.getModifiers()) && !m.isSynthetic()) {
                methods.add((Modifier.isPublic(m.getModifiers()) ? "" : "hidden ")
                        + (Modifier.isStatic(m.getModifiers()) ? "static " : "") + signature(m));
            }
        }
        sameSet("rule 1: the methods", methods, new TreeSet<>(List.of(FACE)));
        Set<String> fields = new TreeSet<>();
        for (Field f : c.getDeclaredFields()) {
            if (!Modifier.isPrivate(f.getModifiers())) {
                fields.add(f.getName());
            }
        }
        sameSet("rule 1: the constants", fields, new TreeSet<>(List.of(CONSTANTS)));
        Constructor<?>[] made = c.getDeclaredConstructors();
        Check.due("rule 1: one constructor", made.length * 10 + made[0].getParameterCount(), 10);
        Check.due("NONE", LaidOutBoxes.NONE, -1);
        Check.due("BAD", LaidOutBoxes.BAD, -2);
        Check.due("STATE", LaidOutBoxes.STATE, -3);
        Check.due("FULL", LaidOutBoxes.FULL, -4);
        Check.due("NO_SUCH", LaidOutBoxes.NO_SUCH, -5);
        Check.due("NO", LaidOutBoxes.NO, Long.MIN_VALUE);
    }

    private static void insideClasses() {
        Set<String> publicNames = new TreeSet<>();
        for (String one : FACE) {
            publicNames.add(one.replaceAll("^\\w+ (\\w+)\\(.*", "$1"));
        }
        List<Class<?>> all = new ArrayList<>(List.of(LaidOutBoxes.class.getDeclaredClasses()));
        Check.due("rule 11: some twelve classes at most", all.size() <= 12 ? 1 : 0, 1);
        all.add(LaidOutBoxes.class);
        for (Class<?> c : all) {
            boolean inside = c != LaidOutBoxes.class;
            Check.due("rule 2: static, " + c, !inside || Modifier.isStatic(c.getModifiers()) ? 1 : 0, 1);
            int fields = 0;
            for (Field f : c.getDeclaredFields()) {
                boolean constant = Modifier.isStatic(f.getModifiers());
                Check.due("rule 5: final, " + f, !constant || Modifier.isFinal(f.getModifiers()) ? 1 : 0, 1);
                fields += constant ? 0 : 1;
            }
            Check.due("rule 11: some twenty fields, " + c, fields <= 20 ? 1 : 0, 1);
            for (Method m : c.getDeclaredMethods()) {
                Check.due("rule 11: seven parameters, " + m, m.getParameterCount() <= 7 ? 1 : 0, 1);
                boolean named = publicNames.contains(m.getName());
                boolean ofFace = !inside && Modifier.isPublic(m.getModifiers());
                Check.due("rule 1: bears no public name, " + m, named && !ofFace ? 0 : 1, 1);
            }
        }
    }

    private static void words() throws IOException {
        String code = Files.readString(FILE)
                .replaceAll("(?s)/\\*.*?\\*/", "").replaceAll("//[^\n]*", "")
                .replaceAll("\"[^\"\n]*\"", "\"\"").replaceAll("'[^'\n]+'", "' '");
        for (String word : FORBIDDEN) {
            String pattern = Character.isLetter(word.charAt(0)) ? "\\b" + word + "\\b" : word;
            if (word.endsWith(")") || word.startsWith("System") || word.startsWith("java")) {
                pattern = "\\b" + word;
            }
            Matcher m = Pattern.compile(pattern).matcher(code);
            Check.due("rules 2, 4, 6, 13: no " + word, m.find() ? 0 : 1, 1);
        }
        Check.due("no package line", code.contains("package ") ? 0 : 1, 1);
        Check.due("rule 2: no class of no name", Pattern.compile("new \\w+\\([^;{}]*\\) *\\{").matcher(code).find() ? 0 : 1, 1);
        Check.due("rule 10: no text joined by +", Pattern.compile("\"\" *\\+|\\+ *\"\"").matcher(code).find() ? 0 : 1, 1);
        int line = 0;
        int began = 0;
        for (String text : Files.readAllLines(FILE)) {
            line++;
            if (text.matches(" {4,8}[\\w<].*\\) \\{") && !text.contains(" class ")) {
                began = line;
            }
            if (text.matches(" {4}\\}| {8}\\}") && began > 0) {
                Check.due("rule 11: some sixty lines, up to line " + line, line - began <= 60 ? 1 : 0, 1);
                began = 0;
            }
            Check.due("a line of more than 120, " + line, text.length() > 120 ? 0 : 1, 1);
        }
    }
}
