import java.lang.reflect.Constructor;
import java.lang.reflect.Field;
import java.lang.reflect.Method;
import java.lang.reflect.Modifier;
import java.nio.file.Files;
import java.nio.file.Path;
import java.util.Arrays;
import java.util.Set;
import java.util.TreeSet;
import java.util.regex.Matcher;
import java.util.regex.Pattern;

/** The face of the class by reflection, and what of LANGUAGE.md a search in the source can show. */
public final class LanguageTest {
    private static final String SOURCE = "src/main/java/PartedPension.java";
    private static final String[] FACE = {
        "int feed(int, int, int, int, int)", "boolean end(int)", "int tell()", "int fault()", "boolean set(int, int, int)",
        "int undo()", "int count(int)", "int span(int, int)", "int spouse(int, int)", "int service(int, int)", "int benefit(int)",
        "int whole(int)", "int share(int, boolean)", "long paid(int, int)", "long sum(int, int, int)", "int richest(int)",
        "int happens(int)", "int lives(int)", "int discount(int)", "long annuity(int, int, int)", "long own(int)",
        "long worth(int, int)", "int claimBest(int)", "int half(int)", "int crosses(int)"};
    private static final String[] RULED_OUT = {"\\bfinally\\b", "\\bsynchronized\\b", "\\bassert\\b", "\\bcatch\\b", "->", "::",
        "\\w+Exact\\b", "\\bstatic\\s*\\{", "\\bSystem\\.(?!arraycopy)", "\\bThread\\b", "\\bObject\\b", "\\bString\\.", "\\bvar\\b",
        "\\bpackage\\b", "\\bprotected\\b", "\\bequals\\b", "\\bhashCode\\b", "\\btoString\\b", "\\bgetMessage\\b"};
    private static int wrong = 0;

    private static void must(boolean holds, String what) {
        if (!holds) {
            wrong++;
            System.out.println(what);
        }
    }

    private static String shown(Method m) {
        StringBuilder text = new StringBuilder(m.getReturnType().getSimpleName()).append(' ').append(m.getName()).append('(');
        for (int i = 0; i < m.getParameterTypes().length; i++) {
            text.append(i == 0 ? "" : ", ").append(m.getParameterTypes()[i].getSimpleName());
        }
        return text.append(')').toString();
    }

    private static void face() {
        Set<String> there = new TreeSet<>();
        Set<String> names = new TreeSet<>();
        for (Method m : PartedPension.class.getDeclaredMethods()) {
            if (Modifier.isPublic(m.getModifiers())) {
                there.add(shown(m));
                names.add(m.getName());
                must(!Modifier.isStatic(m.getModifiers()), m + " is static");
            }
        }
        must(there.equals(new TreeSet<>(Arrays.asList(FACE))), "the face is " + there);
        for (Method m : PartedPension.class.getDeclaredMethods()) {
            if (!Modifier.isPublic(m.getModifiers()) && !m.isSynthetic()) {
                must(Modifier.isPrivate(m.getModifiers()), "not private: " + m);
            }
        }
        for (Class<?> inside : PartedPension.class.getDeclaredClasses()) {
            must(Modifier.isStatic(inside.getModifiers()), "not static: " + inside);
            for (Method m : inside.getDeclaredMethods()) {
                must(!names.contains(m.getName()), "bears a public one's name: " + m);
            }
        }
        must(PartedPension.class.getDeclaredClasses().length <= 12, "more than twelve classes");
        must(Modifier.isFinal(PartedPension.class.getModifiers()), "the class is not final");
        Constructor<?>[] makers = PartedPension.class.getDeclaredConstructors();
        must(makers.length == 1 && Modifier.isPublic(makers[0].getModifiers()), "not one public constructor");
    }

    private static void fields() {
        for (Field f : PartedPension.class.getDeclaredFields()) {
            boolean told = f.getName().equals("NONE") || f.getName().equals("NO_NUMBER");
            must(Modifier.isPublic(f.getModifiers()) == told, "public or not: " + f);
            must(told || Modifier.isPrivate(f.getModifiers()) || f.isSynthetic(), "not private: " + f);
            must(!Modifier.isStatic(f.getModifiers()) || Modifier.isFinal(f.getModifiers()), "static, not final: " + f);
        }
        must(PartedPension.NONE == -1, "NONE");
        must(PartedPension.NO_NUMBER == -1000000000000000L, "NO_NUMBER");
    }

    private static void source(String source) {
        String bare = source.replaceAll("(?s)/\\*.*?\\*/", "").replaceAll("//[^\n]*", "").replaceAll("\"[^\"\n]*\"", "\"\"");
        for (String pattern : RULED_OUT) {
            Matcher m = Pattern.compile(pattern).matcher(bare);
            must(!m.find(), "ruled out: " + pattern);
        }
        Matcher imports = Pattern.compile("import ([^;]*);").matcher(bare);
        while (imports.find()) {
            must(imports.group(1).equals("java.util.NoSuchElementException"), "import of " + imports.group(1));
        }
        Matcher thrown = Pattern.compile("throw ([^;]*);").matcher(bare);
        while (thrown.find()) {
            must(thrown.group(1).equals("new NoSuchElementException(\"\")"), "throw of " + thrown.group(1));
        }
        must(source.chars().allMatch(c -> c == 10 || (c >= 32 && c < 127)), "a sign beyond 127, or a tab");
    }

    /** By the indents that the source keeps to: a method begins at 4 or 8 blanks and ends there. */
    private static void lengths(String source) {
        String[] lines = source.split("\n");
        for (int i = 0; i < lines.length; i++) {
            Matcher m = Pattern.compile("^( {4}| {8})[^ ].*\\(([^)]*)\\).*\\{$").matcher(lines[i]);
            if (m.matches()) {
                int j = i;
                while (j < lines.length && !lines[j].equals(m.group(1) + "}")) {
                    j++;
                }
                must(j - i < 60, "a long method: " + lines[i]);
                must(m.group(2).split(",").length <= 7, "too many parameters: " + lines[i]);
            }
        }
    }

    public static void main(String[] args) throws Exception {
        String source = Files.readString(Path.of(SOURCE));
        face();
        fields();
        source(source);
        lengths(source);
        System.out.println(wrong == 0 ? "the face and the language are kept" : wrong + " things are not kept");
        if (wrong != 0) {
            System.exit(1);
        }
    }
}
