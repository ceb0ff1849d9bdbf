import java.lang.reflect.Constructor;
import java.lang.reflect.Field;
import java.lang.reflect.Method;
import java.lang.reflect.Modifier;
import java.nio.file.Files;
import java.nio.file.Path;
import java.util.ArrayList;
import java.util.List;
import java.util.Set;
import java.util.TreeSet;
import java.util.regex.Matcher;
import java.util.regex.Pattern;

/** The face of the class, and the rules of LANGUAGE.md that can be seen from outside. */
public final class LanguageTest {
    private static final String FACE = """
        feed(int,int,int,int,int)int end(int)int linen()int fault(int)int state(int)int can(int)int moves()int
        fold(int)int call(int)int undo()int led(int)int anew()int plan(int)int after(int,int)int fewest()int
        step(int)int quickest()int quick(int)int alone()int rail(int)int brief(int)int room()int best()int
        parcel(int,int)int parcels()int reach(int)int most()int ways(int)long how(int,int)int means(int)int
        called()int words(int)int alike()int doubled()int right(int,int)int twists(int,int)int mend(int,int)int
        chance(int,int)long out(int)int fits()int packs(int,int)int thin()int learn(int,int)int skilled(int,int)int
        soonest(int)int friday()int given(int)int helps(int)int drawn(int,int,int)int slipped(int,int)int
        years(int,int,int)int count(int)int image(int)int back(int)int row(int,int,int)int write(int,int,long)int
        paste(int,int,int,int,int)int""";

    private static final String[] FORBIDDEN = {
        "\\bthrow\\b", "\\bthrows\\b", "\\btry\\b", "\\bcatch\\b", "\\bsynchronized\\b", "\\bassert\\b", "->", "::",
        "\\bprotected\\b", "\\bpackage\\b", "\\bThread\\b", "\\bRandom\\b", "\\bhashCode\\b", "Exact\\b",
        "\\bdefault void\\b", "currentTimeMillis", "nanoTime", "\\bvolatile\\b", "\\bnative\\b", "\\btransient\\b",
    };

    private static final Set<String> LIBRARY = Set.of(
        "Arrays.fill", "System.arraycopy", "Math.max", "Math.min", "Math.abs", "Integer.bitCount",
        "words.length", "words.charAt");

    private static int wrong = 0;

    private static void due(String what, Object got, Object want) {
        if (!got.equals(want)) {
            wrong++;
            System.out.println(what + ": " + got + ", due is " + want);
        }
    }

    public static void main(String[] args) throws Exception {
        face();
        nestedClasses();
        source(Files.readString(Path.of("src/main/java/SheetByTwo.java")));
        System.out.println(wrong == 0 ? "the language is as due" : wrong + " rules are not kept");
        if (wrong != 0) {
            System.exit(1);
        }
    }

    private static String shapeOf(Method m) {
        List<String> types = new ArrayList<>();
        for (Class<?> type : m.getParameterTypes()) {
            types.add(type.getName());
        }
        return m.getName() + "(" + String.join(",", types) + ")" + m.getReturnType().getName();
    }

    private static void face() {
        Class<SheetByTwo> type = SheetByTwo.class;
        due("the class is public and final", type.getModifiers() & (Modifier.PUBLIC | Modifier.FINAL),
            Modifier.PUBLIC | Modifier.FINAL);
        Set<String> shapes = new TreeSet<>();
        Set<String> names = new TreeSet<>();
        for (Method m : type.getDeclaredMethods()) {
            if (Modifier.isPublic(m.getModifiers())) {
                shapes.add(shapeOf(m));
                names.add(m.getName());
            }
        }
        due("the public methods", shapes, new TreeSet<>(List.of(FACE.trim().split("\\s+"))));
        for (Method m : type.getDeclaredMethods()) {
            int mod = m.getModifiers();
            due(m.getName() + " is public or private", Modifier.isPublic(mod) || Modifier.isPrivate(mod), true);
            due(m.getName() + " bears a public one's name", Modifier.isPrivate(mod) && names.contains(m.getName()), false);
            due(m.getName() + " has seven parameters at most", m.getParameterCount() <= 7, true);
        }
        for (Field f : type.getDeclaredFields()) {
            boolean isNone = f.getName().equals("NONE");
            due(f.getName() + " is private", Modifier.isPrivate(f.getModifiers()), !isNone);
            fieldRules(f);
        }
        due("NONE", SheetByTwo.NONE, -1);
        for (Constructor<?> c : type.getDeclaredConstructors()) {
            due("the constructor", Modifier.isPublic(c.getModifiers()) && c.getParameterCount() == 0, true);
        }
        due("constructors", type.getDeclaredConstructors().length, 1);
    }

    private static void fieldRules(Field f) {
        if (Modifier.isStatic(f.getModifiers())) {
            due(f.getName() + " is final", Modifier.isFinal(f.getModifiers()), true);
            due(f.getName() + " is of a constant's type",
                Set.of("int", "long", "boolean", "char", "java.lang.String", "[I", "[J", "[C", "[B")
                    .contains(f.getType().getName()), true);
        }
    }

    private static void nestedClasses() {
        Set<String> names = new TreeSet<>();
        for (Method m : SheetByTwo.class.getDeclaredMethods()) {
            names.add(m.getName());
        }
        Class<?>[] nested = SheetByTwo.class.getDeclaredClasses();
        due("twelve classes at most", nested.length + 1 <= 12, true);
        for (Class<?> type : nested) {
            due(type.getName() + " is static", Modifier.isStatic(type.getModifiers()), true);
            int fields = 0;
            for (Field f : type.getDeclaredFields()) {
                fieldRules(f);
                fields += Modifier.isStatic(f.getModifiers()) ? 0 : 1;
            }
            due(type.getName() + " has some twenty fields", fields <= 20, true);
            for (Method m : type.getDeclaredMethods()) {
                due(type.getName() + "." + m.getName() + " bears a name of its own", names.contains(m.getName()), false);
                due(m.getName() + " has seven parameters at most", m.getParameterCount() <= 7, true);
            }
        }
    }

    private static void source(String text) {
        String bare = text.replaceAll("(?s)/\\*.*?\\*/", " ").replaceAll("//[^\n]*", " ")
            .replaceAll("\"[^\"\n]*\"", "\"\"");
        for (String word : FORBIDDEN) {
            due("the source has " + word, Pattern.compile(word).matcher(bare).find(), false);
        }
        for (char sign : text.toCharArray()) {
            due("a sign of the source", sign == 10 || sign >= 32 && sign <= 126, true);
        }
        Matcher m = Pattern.compile("^import ([^;]*);", Pattern.MULTILINE).matcher(text);
        while (m.find()) {
            due("an import", m.group(1), "java.util.Arrays");
        }
        m = Pattern.compile("\\b(Arrays|System|Math|Integer|Long|String|words)\\.(\\w+)").matcher(bare);
        while (m.find()) {
            due("the library's " + m.group(), LIBRARY.contains(m.group()), true);
        }
        methodLengths(text);
    }

    private static void methodLengths(String text) {
        String[] lines = text.split("\n");
        int from = -1;
        String closing = "";
        for (int i = 0; i < lines.length; i++) {
            String line = lines[i];
            String indent = line.substring(0, line.length() - line.stripLeading().length());
            if (from < 0 && line.endsWith(") {") && (indent.length() == 4 || indent.length() == 8)
                && line.stripLeading().matches("[\\w\\[\\] ]+\\(.*\\) \\{") && !line.contains(" new ")) {
                from = i;
                closing = indent + "}";
            } else if (from >= 0 && line.equals(closing)) {
                due("line " + (from + 1) + " begins a method of sixty lines at most", i - from <= 60, true);
                from = -1;
            }
        }
    }
}
