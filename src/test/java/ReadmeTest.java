import java.io.IOException;
import java.lang.reflect.Method;
import java.lang.reflect.Modifier;
import java.nio.charset.StandardCharsets;
import java.nio.file.Files;
import java.nio.file.Path;
import java.util.ArrayList;
import java.util.List;
import java.util.TreeSet;
import java.util.regex.Matcher;
import java.util.regex.Pattern;

/** README.md followed word for word: its program, what its commands print, its table of calls, its codes. */
public final class ReadmeTest {
    private static final Path README = Path.of("README.md");
    private static final Path EXAMPLE = Path.of("src/example/java/Example.java");
    private static final Path ALL_TESTS = Path.of(".ci/run");
    private static final Path DOCUMENT = Path.of("../shared/DOC.md");
    private static final String SHEET = "linen long 6 wide 6 thick 1 room 6 arms 6;";

    private static int wrong = 0;

    private static void due(String what, Object got, Object want) {
        if (!got.equals(want)) {
            wrong++;
            System.out.println(what + ": " + got + ", due is " + want);
        }
    }

    /** What stands between ``` and ```, and of what kind it is. */
    private record Block(String kind, String text) { }

    public static void main(String[] args) throws Exception {
        String readme = Files.readString(README);
        program(readme);
        commands(blocksOf(readme));
        paths(readme);
        calls(readme);
        codes(readme);
        bounds(readme);
        System.out.println(wrong == 0 ? "README.md holds" : wrong + " things of README.md do not hold");
        if (wrong != 0) {
            System.exit(1);
        }
    }

    private static List<Block> blocksOf(String readme) {
        List<Block> blocks = new ArrayList<>();
        Matcher m = Pattern.compile("(?ms)^```(\\w+)\n(.*?)^```$").matcher(readme);
        while (m.find()) {
            blocks.add(new Block(m.group(1), m.group(2)));
        }
        return blocks;
    }

    private static void program(String readme) throws IOException {
        List<Block> java = blocksOf(readme).stream().filter(b -> b.kind.equals("java")).toList();
        due("programs", java.size(), 1);
        due("the program is the example", java.get(0).text.equals(Files.readString(EXAMPLE)), true);
    }

    /** Each block of commands is run, and must print the text behind it; all tests run this one, so they are not run. */
    private static void commands(List<Block> blocks) throws Exception {
        int run = 0;
        for (int i = 0; i < blocks.size(); i++) {
            if (!blocks.get(i).kind.equals("sh")) {
                continue;
            }
            String script = blocks.get(i).text;
            run++;
            if (script.trim().equals(ALL_TESTS.toString())) {
                due("all tests can be run", Files.isExecutable(ALL_TESTS), true);
                continue;
            }
            boolean hasText = i + 1 < blocks.size() && blocks.get(i + 1).kind.equals("text");
            due("a text is behind the commands " + script, hasText, true);
            due("what is printed by " + script, printedBy(script), hasText ? blocks.get(i + 1).text : "");
        }
        due("blocks of commands", run, 3);
    }

    private static String printedBy(String script) throws Exception {
        Process process = new ProcessBuilder("sh", "-e", "-c", script + "rm -r \"$out\"\n").redirectErrorStream(true).start();
        process.getOutputStream().close();
        String printed = new String(process.getInputStream().readAllBytes(), StandardCharsets.UTF_8);
        due("the end of " + script, process.waitFor(), 0);
        return printed;
    }

    private static void paths(String readme) throws IOException {
        Matcher m = Pattern.compile("`((?:\\.\\./|src/|\\.ci/)[\\w./]*|\\w+\\.md)`").matcher(readme);
        int seen = 0;
        while (m.find()) {
            seen++;
            due(m.group(1) + " is there", Files.exists(Path.of(m.group(1))), true);
        }
        due("files and directories are named", seen > 3, true);
        String notes = Files.readString(Path.of("NOTES.md"));
        try (var tests = Files.list(Path.of("src/test/java"))) {
            for (Path test : tests.toList()) {
                String name = test.getFileName().toString().replace(".java", "");
                due("NOTES.md tells what " + name + " is for", notes.contains("`" + name + "`"), true);
            }
        }
    }

    /** The table's calls are those of the class, and stand in the row of the promises that the document numbers. */
    private static void calls(String readme) throws IOException {
        List<String> named = new ArrayList<>();
        Matcher row = Pattern.compile("(?m)^\\|[^|`]*\\|((?: `\\w+`)+) \\| (\\d+)(?:(?: to |, )(\\d+))? \\|$").matcher(readme);
        String document = Files.readString(DOCUMENT);
        int promise = 2;
        while (row.find()) {
            due("the first promise of " + row.group(1), Integer.parseInt(row.group(2)), promise);
            for (String call : row.group(1).replace("`", "").trim().split(" ")) {
                named.add(call);
                due("promise " + promise + " is " + call, document.contains("## Promise " + promise + ": " + call + "\n"), true);
                promise++;
            }
            String last = row.group(3) == null ? row.group(2) : row.group(3);
            due("the last promise of " + row.group(1), Integer.parseInt(last), promise - 1);
        }
        due("the promises of the table", promise, 59);
        TreeSet<String> face = new TreeSet<>();
        for (Method m : SheetByTwo.class.getDeclaredMethods()) {
            if (Modifier.isPublic(m.getModifiers())) {
                face.add(m.getName());
            }
        }
        due("the calls of the table", new TreeSet<>(named), face);
    }

    private static void codes(String readme) {
        TreeSet<String> listed = new TreeSet<>();
        Matcher row = Pattern.compile("(?m)^\\| (-\\d[^|(]*)(?:\\(`SheetByTwo\\.NONE`\\) )?\\|").matcher(readme);
        while (row.find()) {
            for (String code : row.group(1).trim().split(", ")) {
                listed.add(code);
            }
        }
        due("the codes that are listed", listed, new TreeSet<>(List.of("-1", "-2", "-3", "-4", "-5", "-6", "-7", "-8", "-100", "-600")));
        SheetByTwo x = new SheetByTwo();
        due("-1 is NONE", SheetByTwo.NONE, -1);
        due("end() of what is not there", x.end(1), -1);
        due("state() without a LINEN", x.state(0), -100);
        due("fewest() without a LINEN", x.fewest(), -2);
        due("fold() without a LINEN", x.fold(0), -2);
        due("count() without a LINEN", x.count(3), 0);
        due("a LINEN", tell(x, SHEET), 1);
        due("fewest() without a wish", x.fewest(), -2);
        due("fold(10)", x.fold(10), -2);
        due("undo() of nothing", x.undo(), -5);
        due("row() of -1", x.row(0, 0, -1), -3);
        due("plan() of a SLOT with nothing", x.plan(0), -6);
        due("after() of a SLOT with nothing", x.after(0, 0), -600);
        due("drawn() of a SLOT with nothing", x.drawn(0, 0, 0), -600);
        due("after() of no such SLOT", x.after(4, 0), -100);
        due("drawn() of no such SLOT", x.drawn(0, 4, 0), -100);
        due("back() to an IMAGE with nothing", x.back(0), -6);
        x.row(0, 0, 2);
        x.row(1, 1, 2);
        due("write() of no such number", x.write(0, 2, 0), -7);
        due("paste() of no such numbers", x.paste(0, 1, 0, 0, 2), -7);
        due("paste() of two WIDTHS", x.paste(0, 0, 1, 0, 1), -8);
        due("a FAULT", tell(x, "linen wide"), -4);
        due("the LINEN stays", x.state(0), 6);
        due("count() of others", x.count(11), -1);
        due("fault() of others", x.fault(2), -1);
        for (int i = 0; i < 60; i++) {
            x.fold(6);
        }
        due("fold() behind 60", x.fold(6), -5);
    }

    /** What it says of the TAPE, and of what it keeps. */
    private static void bounds(String readme) {
        SheetByTwo x = new SheetByTwo();
        int bytes = 0;
        for (int i = 0; i < 60; i++) {
            bytes = Math.max(bytes, x.feed(0x20202020, 0x20202020, 0x20202020, 0x20202020, 0x20202020));
        }
        due("the TAPE holds 1,000", readme.contains("the TAPE holds 1,000") ? bytes : 0, 1000);
        due("blanks are no LINEN", x.linen(), 0);
        due("the TAPE is empty then", x.count(9), 0);
        x.row(3, 0, 0);
        due("without a LINEN, SLOTS that have a row", x.count(10), 1);
    }

    private static int tell(SheetByTwo x, String text) {
        for (int i = 0; i < text.length(); i += 20) {
            int[] five = new int[5];
            for (int k = 0; k < 20; k++) {
                five[k / 4] = five[k / 4] << 8 | (i + k < text.length() ? text.charAt(i + k) : ' ');
            }
            x.feed(five[0], five[1], five[2], five[3], five[4]);
        }
        x.end(text.length());
        return x.linen();
    }
}
