import java.math.BigInteger;
import java.util.ArrayList;
import java.util.Arrays;
import java.util.HashMap;
import java.util.HashSet;
import java.util.List;
import java.util.Map;
import java.util.Random;
import java.util.Set;
import java.util.TreeMap;
import java.util.TreeSet;
import java.util.regex.Matcher;
import java.util.regex.Pattern;

/**
 * Runs of calls, drawn from fixed seeds, on the class and on a slow model of the document that is written apart from
 * it (rows of MOVES as texts, STATES as records, all ways tried): every answer must be the same.
 */
public final class ModelTest {
    private static final int RUNS = 1500;

    private static int wrong = 0;

    public static void main(String[] args) {
        int from = args.length > 0 ? Integer.parseInt(args[0]) : 0;
        int runs = args.length > 1 ? Integer.parseInt(args[1]) : RUNS;
        for (int seed = from; seed < from + runs && wrong < 20; seed++) {
            new Run(seed).go();
        }
        System.out.println(wrong == 0 ? "class and model agree" : wrong + " runs disagree");
        if (wrong != 0) {
            System.exit(1);
        }
    }

    /** One object of each, and calls that both answer. */
    private static final class Run {
        private final int seed;
        private final Random random;
        private final SheetByTwo x = new SheetByTwo();
        private final Model m = new Model();
        private final List<String> told = new ArrayList<>();
        private boolean failed = false;
        private int calls = 0;

        Run(int seed) {
            this.seed = seed;
            random = new Random(seed);
        }

        void go() {
            if (random.nextInt(10) > 0) {
                tell(Texts.linen(random));
            }
            while (calls < 450 && !failed) {
                one();
            }
        }

        private void due(String call, long got, long want) {
            calls++;
            told.add(call + " = " + want);
            if (got != want && !failed) {
                failed = true;
                wrong++;
                System.out.println("run " + seed + ": " + call + " answered " + got + ", the model " + want + ", behind");
                for (String row : told.subList(Math.max(0, told.size() - 40), told.size())) {
                    System.out.println("    " + row);
                }
            }
        }

        private void tell(String text) {
            told.add(text);
            byte[] bytes = Arrays.copyOf(text.getBytes(java.nio.charset.StandardCharsets.ISO_8859_1),
                (text.length() + 19) / 20 * 20);
            for (int i = 0; i < bytes.length; i += 20) {
                int[] v = new int[5];
                for (int k = 0; k < 20; k++) {
                    v[k / 4] = v[k / 4] << 8 | bytes[i + k] & 255;
                }
                due("feed", x.feed(v[0], v[1], v[2], v[3], v[4]), m.feed(v[0], v[1], v[2], v[3], v[4]));
            }
            due("end", x.end(text.length()), m.end(text.length()));
            due("count(9)", x.count(9), m.count(9));
            due("linen", x.linen(), m.linen());
            due("fault(0)", x.fault(0), m.fault(0));
            due("fault(1)", x.fault(1), m.fault(1));
        }

        private int near(int low, int high) {
            int r = random.nextInt(40);
            if (r == 0) {
                return low - 1;
            }
            if (r == 1) {
                return high + 1;
            }
            if (r == 2) {
                return random.nextBoolean() ? Integer.MIN_VALUE : Integer.MAX_VALUE;
            }
            return low + random.nextInt(high - low + 1);
        }

        private int anySeed() {
            int r = random.nextInt(30);
            if (r == 0) {
                return 2_000_000_000 + random.nextInt(2);
            }
            return r == 1 ? -1 : random.nextInt(2_000_000_001);
        }

        private void fillRow() {
            int slot = near(0, 3);
            int width = near(0, 3);
            int n = random.nextInt(20) == 0 ? near(0, 60) : random.nextInt(8);
            due("row(" + slot + "," + width + "," + n + ")", x.row(slot, width, n), m.row(slot, width, n));
            int top = new int[] {5, 9, 2, 400}[random.nextInt(4)];
            for (int i = 0; i < Math.min(n, 10); i++) {
                long v = random.nextInt(60) == 0 ? random.nextLong() : random.nextInt(top + 1);
                write(slot, i, v);
            }
        }

        private void write(int slot, int i, long v) {
            due("write(" + slot + "," + i + "," + v + ")", x.write(slot, i, v), m.write(slot, i, v));
        }

        private void one() {
            switch (random.nextInt(12)) {
                case 0: told(); break;
                case 1: case 2: case 3: folding(); break;
                case 4: case 5: searching(); break;
                case 6: calling(); break;
                case 7: chances(); break;
                case 8: pressing(); break;
                case 9: piles(); break;
                case 10: drawing(); break;
                default: rows(); break;
            }
        }

        private void told() {
            int r = random.nextInt(12);
            if (r == 0) {
                tell(Texts.linen(random));
            } else if (r == 1) {
                tell(Texts.broken(random));
            } else if (r == 2) {
                int v = random.nextInt();
                due("feed", x.feed(v, 1, 2, 3, v), m.feed(v, 1, 2, 3, v));
                int n = near(0, 20);
                due("end(" + n + ")", x.end(n), m.end(n));
            } else if (r == 3) {
                int k = near(0, 2);
                due("image(" + k + ")", x.image(k), m.image(k));
            } else if (r == 4) {
                int k = near(0, 2);
                due("back(" + k + ")", x.back(k), m.back(k));
            } else {
                int w = near(0, 10);
                due("count(" + w + ")", x.count(w), m.count(w));
                due("fault(" + w + ")", x.fault(w), m.fault(w));
            }
        }

        private void folding() {
            int i = near(0, 9);
            int c = near(0, 5);
            switch (random.nextInt(9)) {
                case 0: case 1: due("fold(" + i + ")", x.fold(i), m.fold(i)); break;
                case 2: due("call(" + c + ")", x.call(c), m.call(c)); break;
                case 3: due("undo()", x.undo(), m.undo()); break;
                case 4: due("led(" + i + ")", x.led(i), m.led(i)); break;
                case 5: due("can(" + i + ")", x.can(i), m.can(i)); break;
                case 6: due("moves()", x.moves(), m.moves()); break;
                case 7:
                    if (random.nextInt(4) == 0) {
                        due("anew()", x.anew(), m.anew());
                    }
                    break;
                default: break;
            }
            int w = near(0, 7);
            due("state(" + w + ")", x.state(w), m.state(w));
        }

        private void searching() {
            int i = near(0, 5);
            int n = near(1, 60);
            int k = near(0, 12);
            switch (random.nextInt(15)) {
                case 0: due("fewest()", x.fewest(), m.fewest()); break;
                case 1: due("step(" + i + ")", x.step(i), m.step(i)); break;
                case 2: due("quickest()", x.quickest(), m.quickest()); break;
                case 3: due("quick(" + i + ")", x.quick(i), m.quick(i)); break;
                case 4: due("alone()", x.alone(), m.alone()); break;
                case 5: due("rail(" + i + ")", x.rail(i), m.rail(i)); break;
                case 6: due("brief(" + n + ")", x.brief(n), m.brief(n)); break;
                case 7: due("room()", x.room(), m.room()); break;
                case 8: due("best()", x.best(), m.best()); break;
                case 9:
                    int l = near(1, random.nextBoolean() ? 48 : 12);
                    int w = near(1, random.nextBoolean() ? 48 : 12);
                    due("parcel(" + l + "," + w + ")", x.parcel(l, w), m.parcel(l, w));
                    break;
                case 10: due("parcels()", x.parcels(), m.parcels()); break;
                case 11:
                    int r = near(0, 20);
                    due("reach(" + r + ")", x.reach(r), m.reach(r));
                    break;
                case 12: due("most()", x.most(), m.most()); break;
                case 13: due("ways(" + k + ")", x.ways(k), m.ways(k)); break;
                default: due("how(" + k + "," + i + ")", x.how(k, i), m.how(k, i)); break;
            }
        }

        private void calling() {
            int c = near(0, 5);
            int p = near(0, 1);
            switch (random.nextInt(5)) {
                case 0: due("means(" + c + ")", x.means(c), m.means(c)); break;
                case 1: due("called()", x.called(), m.called()); break;
                case 2: due("words(" + p + ")", x.words(p), m.words(p)); break;
                case 3: due("alike()", x.alike(), m.alike()); break;
                default: due("doubled()", x.doubled(), m.doubled()); break;
            }
        }

        private void chances() {
            int c = near(0, 5);
            int p = near(0, 1);
            int slot = near(0, 3);
            due("right(" + c + "," + p + ")", x.right(c, p), m.right(c, p));
            due("twists(" + c + "," + p + ")", x.twists(c, p), m.twists(c, p));
            due("mend(" + c + "," + p + ")", x.mend(c, p), m.mend(c, p));
            due("chance(" + slot + "," + p + ")", x.chance(slot, p), m.chance(slot, p));
        }

        private void pressing() {
            int p = near(0, 1);
            int slot = near(0, 3);
            due("out(" + p + ")", x.out(p), m.out(p));
            due("fits()", x.fits(), m.fits());
            due("thin()", x.thin(), m.thin());
            due("packs(" + slot + "," + p + ")", x.packs(slot, p), m.packs(slot, p));
        }

        private void piles() {
            int p = near(0, 3);
            int n = near(0, 999);
            int s = near(0, 300);
            switch (random.nextInt(6)) {
                case 0: due("learn(" + p + "," + n + ")", x.learn(p, n), m.learn(p, n)); break;
                case 1: due("skilled(" + p + "," + s + ")", x.skilled(p, s), m.skilled(p, s)); break;
                case 2: due("soonest(" + n + ")", x.soonest(n), m.soonest(n)); break;
                case 3: due("friday()", x.friday(), m.friday()); break;
                case 4:
                    int pile = near(0, 5);
                    due("given(" + pile + ")", x.given(pile), m.given(pile));
                    break;
                default: due("helps(" + p + ")", x.helps(p), m.helps(p)); break;
            }
        }

        private void drawing() {
            int slot = near(0, 3);
            int w = near(0, 7);
            int sd = anySeed();
            int n = near(1, 20);
            due("plan(" + slot + ")", x.plan(slot), m.plan(slot));
            due("after(" + slot + "," + w + ")", x.after(slot, w), m.after(slot, w));
            due("drawn(" + sd + "," + slot + "," + w + ")", x.drawn(sd, slot, w), m.drawn(sd, slot, w));
            due("slipped(" + sd + "," + slot + ")", x.slipped(sd, slot), m.slipped(sd, slot));
            due("years(" + sd + "," + n + "," + slot + ")", x.years(sd, n, slot), m.years(sd, n, slot));
        }

        private void rows() {
            int r = random.nextInt(4);
            if (r < 2) {
                fillRow();
            } else if (r == 2) {
                write(near(0, 3), near(0, 9), random.nextBoolean() ? random.nextInt(6) : random.nextLong());
            } else {
                int slot = near(0, 3);
                int to = near(0, 3);
                int i = near(0, 4);
                int k = near(0, 4);
                int n = near(0, 4);
                due("paste(" + slot + "," + i + "," + to + "," + k + "," + n + ")",
                    x.paste(slot, i, to, k, n), m.paste(slot, i, to, k, n));
            }
        }
    }

    /** Texts that tell a LINEN, and texts with something wrong. */
    private static final class Texts {
        private static final int[] GOOD_SIZES = {1, 2, 3, 4, 6, 8, 9, 12, 16, 18, 24, 27, 32, 36, 48};

        static int size(Random r) {
            return r.nextInt(4) == 0 ? 1 + r.nextInt(48) : GOOD_SIZES[r.nextInt(GOOD_SIZES.length)];
        }

        static String pick(Random r, String words) {
            String[] all = words.split(" ");
            return all[r.nextInt(all.length)];
        }

        static String blank(Random r) {
            return r.nextInt(8) > 0 ? " " : pick(r, "a b").equals("a") ? "\n" : "  \n ";
        }

        static List<String> lines(Random r) {
            List<String> lines = new ArrayList<>();
            int l = size(r);
            int w = size(r);
            int room = r.nextInt(3) == 0 ? 1 + r.nextInt(60) : Math.min(60, Math.max(l, w) + r.nextInt(8) - 2);
            lines.add("linen long " + l + " wide " + w + " thick " + (1 + r.nextInt(9)) + " room " + Math.max(1, room)
                + " arms " + (1 + r.nextInt(r.nextBoolean() ? 60 : 12)));
            List<String> rest = new ArrayList<>();
            for (int i = r.nextInt(5); i > 0; i--) {
                rest.add(pick(r, "halve third meet turn quarter untwist") + " takes " + (1 + r.nextInt(r.nextBoolean() ? 99 : 6)));
            }
            String acts = r.nextBoolean() ? "top bottom walk stay" : "top bottom";
            for (int i = r.nextInt(7); i > 0; i--) {
                rest.add("call her " + pick(r, acts) + " his " + pick(r, acts));
            }
            for (int i = r.nextInt(3); i > 0; i--) {
                rest.add("slips her " + r.nextInt(51) + " his " + r.nextInt(51));
            }
            if (r.nextInt(6) > 0) {
                int a = l;
                int b = w;
                for (int i = r.nextInt(5); i > 0; i--) {
                    int t = r.nextInt(4);
                    a = t == 0 && a % 2 == 0 ? a / 2 : a;
                    b = t == 1 && b % 2 == 0 ? b / 2 : t == 2 && b % 3 == 0 ? b / 3 : b;
                    int c = a;
                    a = t == 3 ? b : a;
                    b = t == 3 ? c : b;
                }
                rest.add("wish long " + (r.nextInt(8) == 0 ? size(r) : a) + " wide " + (r.nextInt(8) == 0 ? size(r) : b) + " "
                    + pick(r, "front back either") + " " + pick(r, r.nextBoolean() ? "top bottom left right in any" : "any"));
            }
            if (r.nextInt(4) > 0) {
                rest.add("press " + (1 + r.nextInt(r.nextBoolean() ? 999 : 60)));
            }
            for (int i = r.nextInt(5); i > 0; i--) {
                rest.add("pair " + (1 + r.nextInt(99)) + " learns " + r.nextInt(r.nextBoolean() ? 1000 : 50));
            }
            for (int i = r.nextInt(r.nextBoolean() ? 7 : 4); i > 0; i--) {
                rest.add("pile " + (1 + r.nextInt(60)));
            }
            java.util.Collections.shuffle(rest, r);
            lines.addAll(rest);
            return lines;
        }

        static String join(Random r, List<String> lines) {
            StringBuilder text = new StringBuilder();
            boolean tight = r.nextBoolean();
            for (String line : lines) {
                String[] words = line.split(" ");
                for (int i = 0; i < words.length; i++) {
                    boolean split = i > 0 && Character.isDigit(words[i].charAt(0)) != Character.isDigit(words[i - 1].charAt(0));
                    text.append(i == 0 || tight && split ? "" : blank(r)).append(words[i]);
                }
                text.append(tight ? ";" : blank(r) + ";" + blank(r));
            }
            return text.length() > 960 ? text.substring(0, 960) : text.toString();
        }

        static String linen(Random r) {
            return r.nextInt(40) == 0 ? blank(r) : join(r, lines(r));
        }

        static String broken(Random r) {
            List<String> lines = lines(r);
            int where = r.nextInt(lines.size());
            switch (r.nextInt(6)) {
                case 0:
                    for (int i = 0; i < 7; i++) {
                        lines.add(where + 1 - (where == lines.size() ? 1 : 0),
                            pick(r, "call_her_top_his_stay pair_3_learns_0 pile_4").replace('_', ' '));
                    }
                    break;
                case 1: lines.add(where, lines.get(r.nextInt(lines.size()))); break;
                case 2:
                    String[] words = lines.get(where).split(" ");
                    words[r.nextInt(words.length)] = pick(r, "0 1 48 49 50 51 60 61 99 100 999 1000 4294967297 007 top in her linen any takes");
                    lines.set(where, String.join(" ", words));
                    break;
                case 3: lines.remove(0); break;
                default: break;
            }
            StringBuilder text = new StringBuilder(join(r, lines));
            if (r.nextBoolean()) {
                text.setLength(r.nextInt(text.length() + 1));
            }
            for (int i = r.nextInt(3); i > 0 && text.length() > 0; i--) {
                int at = r.nextInt(text.length());
                text.setCharAt(at, r.nextBoolean() ? (char) r.nextInt(256) : ";0az \n\t".charAt(r.nextInt(7)));
            }
            return text.toString();
        }
    }

    /** A STATE as the document has it. */
    private record Stand(int l, int w, String hem, boolean back, int twist) {
        Stand with(int nl, int nw, boolean turned, String... hems) {
            String h = hem;
            for (int i = 0; i < hems.length; i += 2) {
                if (hem.equals(hems[i])) {
                    h = hems[i + 1];
                }
            }
            return new Stand(nl, nw, h, back ^ turned, twist);
        }

        /** Behind a MOVE as if there were room enough, null where its size forbids it. */
        Stand moved(int move) {
            if (move == 9) {
                return twist == 0 ? null : new Stand(l, w, hem, back, twist - Integer.signum(twist));
            }
            if (twist != 0) {
                return null;
            }
            switch (move) {
                case 0: return w % 2 == 1 ? null : with(l, w / 2, true, "top", "bottom");
                case 1: return w % 2 == 1 ? null : with(l, w / 2, false, "bottom", "top");
                case 2: return w % 3 != 0 ? null : with(l, w / 3, true, "top", "in", "bottom", "in");
                case 3: return l % 2 == 1 ? null : with(l / 2, w, true, "left", "right");
                case 4: return l % 2 == 1 ? null : with(l / 2, w, false, "right", "left");
                case 5: return l % 2 == 1 ? null : with(l / 2, w, true, "left", "in", "right", "in");
                case 6: return with(l, w, true, "top", "bottom", "bottom", "top");
                case 7: return with(l, w, false, "top", "bottom", "bottom", "top", "left", "right", "right", "left");
                default: return with(w, l, false, "top", "right", "right", "bottom", "bottom", "left", "left", "top");
            }
        }

        Stand together(int move, int room) {
            boolean fits = move == 9 || (move == 8 ? w <= room : l <= room);
            return fits ? moved(move) : null;
        }

        Stand alone(int move, int arms) {
            return move == 4 || move == 5 || move <= 2 && l > arms ? null : moved(move);
        }

        Stand twisted(int by, int room) {
            boolean can = l <= room && w % 2 == 0 && Math.abs(twist + by) <= 2;
            return can ? new Stand(l, w, hem, back, twist + by) : null;
        }
    }

    /** The document, slowly. */
    private static final class Model {
        private static final List<String> HEMS = List.of("top", "bottom", "left", "right", "in");
        private static final List<String> MOVINGS = List.of("halve", "third", "meet", "turn", "quarter", "untwist");
        private static final int[] MOVING_OF = {0, 0, 1, 2, 2, 2, 3, 3, 4, 5};

        private record Told(int l, int w, int thick, int room, int arms, Map<String, Integer> takes, List<String> calls,
            int herSlips, int hisSlips, List<String> wish, int press, List<int[]> pairs, List<Integer> piles, int lines) { }

        private record Kept(Told told, List<Integer> done, List<Stand> stands, List<Integer> seconds) { }

        private String tape = "";
        private int fault = 0;
        private int place = -1;
        private Told told = null;
        private List<Integer> done = new ArrayList<>();
        private List<Stand> stands = new ArrayList<>();
        private List<Integer> seconds = new ArrayList<>();
        private final Kept[] kept = new Kept[3];
        private final long[][] rows = new long[4][];
        private final int[] widths = new int[4];

        int feed(int... five) {
            if (tape.length() + 20 > 1000) {
                return -1;
            }
            StringBuilder more = new StringBuilder(tape);
            for (int v : five) {
                for (int i = 3; i >= 0; i--) {
                    more.append((char) (v >>> 8 * i & 255));
                }
            }
            tape = more.toString();
            return tape.length();
        }

        int end(int n) {
            if (n < 0 || n > tape.length()) {
                return -1;
            }
            tape = tape.substring(0, n);
            return n;
        }

        // ---- reading: the grammar as a list of patterns, each LINE tried against them

        private static final String[] SHAPES = {
            "linen long 1-48 wide 1-48 thick 1-9 room 1-60 arms 1-60 ;",
            "halve takes 1-99 ;", "third takes 1-99 ;", "meet takes 1-99 ;", "turn takes 1-99 ;", "quarter takes 1-99 ;",
            "untwist takes 1-99 ;", "call her top|bottom|walk|stay his top|bottom|walk|stay ;",
            "slips her 0-50 his 0-50 ;", "wish long 1-48 wide 1-48 front|back|either top|bottom|left|right|in|any ;",
            "press 1-999 ;", "pair 1-99 learns 0-999 ;", "pile 1-60 ;",
        };

        int linen() {
            String text = tape;
            tape = "";
            fault = 0;
            place = -1;
            List<List<String>> lines = new ArrayList<>();
            parse(text, lines);
            if (fault != 0) {
                return -4;
            }
            told = lines.isEmpty() ? null : tellings(lines);
            done = new ArrayList<>();
            stands = new ArrayList<>();
            seconds = new ArrayList<>();
            if (told != null) {
                stands.add(new Stand(told.l, told.w, "top", false, 0));
                seconds.add(0);
            }
            return lines.size();
        }

        private void wrongAt(int code, int where) {
            fault = code;
            place = where;
        }

        private void parse(String text, List<List<String>> lines) {
            Matcher m = Pattern.compile("[a-z]+|[0-9]+|[^ \n]", Pattern.DOTALL).matcher(text);
            Map<String, Integer> counts = new HashMap<>();
            List<String> shape = null;
            List<String> line = new ArrayList<>();
            while (m.find()) {
                String token = m.group();
                if (line.isEmpty()) {
                    shape = null;
                    for (int i = lines.isEmpty() ? 0 : 1; i < (lines.isEmpty() ? 1 : SHAPES.length); i++) {
                        List<String> candidate = List.of(SHAPES[i].split(" "));
                        shape = candidate.get(0).equals(token) ? candidate : shape;
                    }
                    if (shape == null) {
                        wrongAt(1, m.start());
                        return;
                    }
                    int many = counts.merge(token, 1, Integer::sum);
                    if (token.equals("call") && many > 6 || token.equals("pair") && many > 4 || token.equals("pile") && many > 6) {
                        wrongAt(3, m.start());
                        return;
                    }
                }
                int code = misfit(token, shape.get(line.size()));
                if (code != 0) {
                    wrongAt(code, m.start());
                    return;
                }
                line.add(token);
                if (token.equals(";")) {
                    lines.add(line);
                    line = new ArrayList<>();
                }
            }
            if (!line.isEmpty()) {
                wrongAt(1, text.length());
            }
        }

        private static int misfit(String token, String wanted) {
            if (!Character.isDigit(wanted.charAt(0))) {
                return List.of(wanted.split("\\|")).contains(token) ? 0 : 1;
            }
            if (!token.matches("[0-9]+")) {
                return 1;
            }
            BigInteger v = new BigInteger(token);
            String[] bounds = wanted.split("-");
            boolean in = v.compareTo(new BigInteger(bounds[0])) >= 0 && v.compareTo(new BigInteger(bounds[1])) <= 0;
            return in ? 0 : 2;
        }

        private static Told tellings(List<List<String>> lines) {
            List<String> f = lines.get(0);
            Map<String, Integer> takes = new HashMap<>();
            List<String> calls = new ArrayList<>();
            int[] slips = {0, 0};
            List<String> wish = null;
            int press = 0;
            List<int[]> pairs = new ArrayList<>();
            List<Integer> piles = new ArrayList<>();
            for (List<String> line : lines.subList(1, lines.size())) {
                switch (line.get(0)) {
                    case "call": calls.add(line.get(2) + " " + line.get(4)); break;
                    case "slips": slips = new int[] {num(line, 2), num(line, 4)}; break;
                    case "wish": wish = List.of("" + num(line, 2), "" + num(line, 4), line.get(5), line.get(6)); break;
                    case "press": press = num(line, 1); break;
                    case "pair": pairs.add(new int[] {num(line, 1), num(line, 3)}); break;
                    case "pile": piles.add(num(line, 1)); break;
                    default: takes.put(line.get(0), num(line, 2));
                }
            }
            return new Told(num(f, 2), num(f, 4), num(f, 6), num(f, 8), num(f, 10), takes, calls, slips[0], slips[1], wish,
                press, pairs, piles, lines.size());
        }

        private static int num(List<String> line, int i) {
            return Integer.parseInt(line.get(i));
        }

        int fault(int what) {
            return what == 0 ? fault : what == 1 ? place : -1;
        }

        // ---- the STATE

        private Stand now() {
            return stands.get(stands.size() - 1);
        }

        private int gone() {
            return seconds.get(seconds.size() - 1);
        }

        private int view(Stand s, int sec, int what) {
            int layers = told.l * told.w / (s.l * s.w);
            int[] all = {s.l, s.w, HEMS.indexOf(s.hem), s.back ? 1 : 0, s.twist, layers, layers * told.thick, sec};
            return what < 0 || what > 7 ? -100 : all[what];
        }

        int state(int what) {
            return told == null ? -100 : view(now(), gone(), what);
        }

        private int takes(int act) {
            if (act == 12) {
                return 0;
            }
            return told.takes.getOrDefault(MOVINGS.get(act >= 10 ? 0 : MOVING_OF[act]), 5);
        }

        private Stand acted(Stand s, int act) {
            return act < 10 ? s.together(act, told.room) : act == 12 ? s : s.twisted(act == 10 ? 1 : -1, told.room);
        }

        int can(int move) {
            return told == null || move < 0 || move > 9 ? -2 : acted(now(), move) != null ? 1 : 0;
        }

        int moves() {
            if (told == null) {
                return -2;
            }
            int bits = 0;
            for (int i = 0; i < 10; i++) {
                bits += can(i) << i;
            }
            return bits;
        }

        private boolean doIt(int act) {
            Stand next = acted(now(), act);
            if (next == null || done.size() == 60) {
                return false;
            }
            done.add(act);
            stands.add(next);
            seconds.add(gone() + takes(act));
            return true;
        }

        int fold(int move) {
            return told == null || move < 0 || move > 9 ? -2 : doIt(move) ? takes(move) : -5;
        }

        private boolean noCall(long c) {
            return told == null || c < 0 || c >= told.calls.size();
        }

        private static int meaning(String both) {
            switch (both) {
                case "top top": return 0;
                case "bottom bottom": return 1;
                case "walk stay": return 3;
                case "stay walk": return 4;
                case "walk walk": return 5;
                case "top bottom": return 10;
                case "bottom top": return 11;
                default: return 12;
            }
        }

        int means(int call) {
            return noCall(call) ? -2 : meaning(told.calls.get(call));
        }

        int call(int call) {
            return noCall(call) ? -2 : doIt(means(call)) ? means(call) : -5;
        }

        int undo() {
            if (told == null) {
                return -2;
            }
            if (done.isEmpty()) {
                return -5;
            }
            done.remove(done.size() - 1);
            stands.remove(stands.size() - 1);
            seconds.remove(seconds.size() - 1);
            return done.size();
        }

        int led(int i) {
            return told == null ? -2 : i < 0 || i >= done.size() ? -1 : done.get(i);
        }

        int anew() {
            if (told == null) {
                return -2;
            }
            int n = done.size();
            while (!done.isEmpty()) {
                undo();
            }
            return n;
        }

        private int badRow(int slot, long bound) {
            if (told == null || slot < 0 || slot > 3) {
                return -2;
            }
            if (rows[slot] == null) {
                return -6;
            }
            return Arrays.stream(rows[slot]).anyMatch(v -> v < 0 || v >= bound) ? -2 : 0;
        }

        int plan(int slot) {
            return badRow(slot, 10) != 0 ? badRow(slot, 10) : planned(slot)[1];
        }

        private int[] planned(int slot) {
            Stand s = now();
            int sec = gone();
            int n = 0;
            for (long v : rows[slot]) {
                Stand next = acted(s, (int) v);
                if (next == null) {
                    break;
                }
                s = next;
                sec += takes((int) v);
                n++;
            }
            planStand = s;
            return new int[] {sec, n};
        }

        private Stand planStand = null;

        int after(int slot, int what) {
            if (what < 0 || what > 7) {
                return -100;
            }
            int bad = badRow(slot, 10);
            if (bad != 0) {
                return bad * 50 == -300 ? -600 : -100;
            }
            int sec = planned(slot)[0];
            return view(planStand, sec, what);
        }

        // ---- searches: rows of MOVES as texts, shortest first, the least first

        private interface Rule {
            Stand next(Stand s, int move);
        }

        private interface Goal {
            boolean met(Stand s);
        }

        private Goal wished() {
            return s -> s.l == Integer.parseInt(told.wish.get(0)) && s.w == Integer.parseInt(told.wish.get(1)) && s.twist == 0
                && (told.wish.get(2).equals("either") || told.wish.get(2).equals(s.back ? "back" : "front"))
                && (told.wish.get(3).equals("any") || told.wish.get(3).equals(s.hem));
        }

        private Map<Stand, String> leastRows(Rule rule) {
            Map<Stand, String> all = new HashMap<>();
            Map<Stand, String> level = new HashMap<>();
            level.put(now(), "");
            while (!level.isEmpty()) {
                all.putAll(level);
                Map<Stand, String> next = new HashMap<>();
                for (Map.Entry<Stand, String> e : level.entrySet()) {
                    for (int move = 0; move < 10; move++) {
                        Stand s = rule.next(e.getKey(), move);
                        if (s != null && !all.containsKey(s)) {
                            next.merge(s, e.getValue() + move, (a, b) -> a.compareTo(b) < 0 ? a : b);
                        }
                    }
                }
                level = next;
            }
            return all;
        }

        private String leastRow(Rule rule, Goal goal) {
            String best = null;
            for (Map.Entry<Stand, String> e : leastRows(rule).entrySet()) {
                String row = e.getValue();
                if (goal.met(e.getKey()) && (best == null || row.length() < best.length()
                    || row.length() == best.length() && row.compareTo(best) < 0)) {
                    best = row;
                }
            }
            return best;
        }

        private static int lengthOf(String row) {
            return row == null ? -1 : row.length();
        }

        private static int digitOf(String row, int i) {
            return row == null || i < 0 || i >= row.length() ? -1 : row.charAt(i) - '0';
        }

        private Rule inRoom(int room) {
            return (s, move) -> s.together(move, room);
        }

        private boolean noWish() {
            return told == null || told.wish == null;
        }

        int fewest() {
            return noWish() ? -2 : lengthOf(leastRow(inRoom(told.room), wished()));
        }

        int step(int i) {
            return noWish() ? -2 : digitOf(leastRow(inRoom(told.room), wished()), i);
        }

        private int cost(String row) {
            return row.chars().map(c -> takes(c - '0')).sum();
        }

        private boolean quicker(String a, String b) {
            return b == null || cost(a) < cost(b) || cost(a) == cost(b) && a.compareTo(b) < 0;
        }

        private String quickRow() {
            Map<Stand, String> best = new HashMap<>();
            List<Stand> changed = new ArrayList<>(List.of(now()));
            best.put(now(), "");
            while (!changed.isEmpty()) {
                Set<Stand> next = new HashSet<>();
                for (Stand s : changed) {
                    for (int move = 0; move < 10; move++) {
                        Stand t = s.together(move, told.room);
                        if (t != null && quicker(best.get(s) + move, best.get(t))) {
                            best.put(t, best.get(s) + move);
                            next.add(t);
                        }
                    }
                }
                changed = new ArrayList<>(next);
            }
            String row = null;
            Goal goal = wished();
            for (Map.Entry<Stand, String> e : best.entrySet()) {
                if (goal.met(e.getKey()) && quicker(e.getValue(), row)) {
                    row = e.getValue();
                }
            }
            return row;
        }

        int quickest() {
            if (noWish()) {
                return -2;
            }
            String row = quickRow();
            return row == null ? -1 : cost(row);
        }

        int quick(int i) {
            return noWish() ? -2 : digitOf(quickRow(), i);
        }

        private Rule byMyself() {
            return (s, move) -> s.alone(move, told.arms);
        }

        int alone() {
            return noWish() ? -2 : lengthOf(leastRow(byMyself(), wished()));
        }

        int rail(int i) {
            return noWish() ? -2 : digitOf(leastRow(byMyself(), wished()), i);
        }

        int brief(int n) {
            return noWish() || n < 1 || n > 60 ? -2 : lengthOf(leastRow(inRoom(n), wished()));
        }

        int room() {
            if (noWish()) {
                return -2;
            }
            for (int n = 1; n <= 60; n++) {
                if (brief(n) >= 0) {
                    return n;
                }
            }
            return -1;
        }

        int best() {
            if (noWish()) {
                return -2;
            }
            int at = -1;
            int least = 0;
            for (int n = 1; n <= 60; n++) {
                int b = brief(n);
                if (b >= 0 && (at < 0 || b < least)) {
                    at = n;
                    least = b;
                }
            }
            return at;
        }

        int parcel(int longer, int wider) {
            if (told == null || longer < 1 || longer > 48 || wider < 1 || wider > 48) {
                return -2;
            }
            return lengthOf(leastRow(inRoom(told.room), s -> s.l == longer && s.w == wider && s.twist == 0));
        }

        int parcels() {
            if (told == null) {
                return -2;
            }
            Set<Integer> sizes = new TreeSet<>();
            leastRows(inRoom(told.room)).keySet().forEach(s -> sizes.add(s.l * 100 + s.w));
            return sizes.size();
        }

        int reach(int n) {
            if (told == null || n < 0 || n > 20) {
                return -2;
            }
            return (int) leastRows(inRoom(told.room)).values().stream().filter(row -> row.length() <= n).count();
        }

        int most() {
            if (told == null) {
                return -2;
            }
            return leastRows(inRoom(told.room)).keySet().stream().mapToInt(s -> told.l * told.w / s.l / s.w).max().getAsInt();
        }

        private long waysFrom(Stand from, int n) {
            Map<Stand, Long> counts = new HashMap<>();
            counts.put(from, 1L);
            for (int i = 0; i < n; i++) {
                Map<Stand, Long> next = new HashMap<>();
                for (Map.Entry<Stand, Long> e : counts.entrySet()) {
                    for (int move = 0; move < 10; move++) {
                        Stand s = e.getKey().together(move, told.room);
                        if (s != null) {
                            next.merge(s, e.getValue(), Long::sum);
                        }
                    }
                }
                counts = next;
            }
            return counts.getOrDefault(now(), 0L);
        }

        long ways(int n) {
            return told == null || n < 0 || n > 12 ? -2 : waysFrom(stands.get(0), n);
        }

        int how(int n, int i) {
            if (told == null || n < 0 || n > 12) {
                return -2;
            }
            if (i < 0 || i >= n || ways(n) == 0) {
                return -1;
            }
            Stand s = stands.get(0);
            for (int k = 0; ; k++) {
                int move = 0;
                while (s.together(move, told.room) == null || waysFrom(s.together(move, told.room), n - k - 1) == 0) {
                    move++;
                }
                if (k == i) {
                    return move;
                }
                s = s.together(move, told.room);
            }
        }

        // ---- CALLS: the TWISTS are steps, too, here

        private int calledBy(int set) {
            Goal goal = wished();
            Set<Stand> seen = new HashSet<>(Set.of(now()));
            List<Stand> level = new ArrayList<>(seen);
            for (int depth = 0; !level.isEmpty(); depth++) {
                List<Stand> next = new ArrayList<>();
                for (Stand s : level) {
                    if (goal.met(s)) {
                        return depth;
                    }
                    for (int c = -1; c < told.calls.size(); c++) {
                        if (c < 0 || (set >> c & 1) == 1) {
                            Stand t = acted(s, c < 0 ? 9 : means(c));
                            if (t != null && seen.add(t)) {
                                next.add(t);
                            }
                        }
                    }
                }
                level = next;
            }
            return -1;
        }

        int called() {
            return noWish() ? -2 : calledBy(63);
        }

        int words(int what) {
            if (noWish() || what < 0 || what > 1) {
                return -2;
            }
            int best = -1;
            for (int set = 0; set < 1 << told.calls.size(); set++) {
                if (calledBy(set) >= 0 && (best < 0 || Integer.bitCount(set) < Integer.bitCount(best))) {
                    best = set;
                }
            }
            return best < 0 || what == 1 ? best : Integer.bitCount(best);
        }

        int alike() {
            if (told == null) {
                return -2;
            }
            int bits = 0;
            for (int c = 0; c < told.calls.size(); c++) {
                String[] acts = told.calls.get(c).split(" ");
                bits |= acts[0].equals(acts[1]) ? 1 << c : 0;
            }
            return bits;
        }

        int doubled() {
            if (told == null) {
                return -2;
            }
            int bits = 0;
            for (int c = 0; c < told.calls.size(); c++) {
                bits |= told.calls.indexOf(told.calls.get(c)) < c ? 1 << c : 0;
            }
            return bits;
        }

        // ---- chances: every slip or none of each is tried

        private static boolean tells(String act) {
            return act.equals("top") || act.equals("bottom");
        }

        private static String other(String act) {
            return act.equals("top") ? "bottom" : "top";
        }

        /** Of ten thousand, by what is then done: her ACT and his. */
        private Map<String, Integer> heard(int call) {
            Map<String, Integer> all = new TreeMap<>();
            String[] acts = told.calls.get(call).split(" ");
            for (int k = 0; k < 4; k++) {
                boolean her = (k & 1) == 1;
                boolean his = (k & 2) == 2;
                if (her && !tells(acts[0]) || his && !tells(acts[1])) {
                    continue;
                }
                int p = tells(acts[0]) ? her ? told.herSlips : 100 - told.herSlips : 100;
                int q = tells(acts[1]) ? his ? told.hisSlips : 100 - told.hisSlips : 100;
                all.merge((her ? other(acts[0]) : acts[0]) + " " + (his ? other(acts[1]) : acts[1]), p * q, Integer::sum);
            }
            return all;
        }

        private static long part(BigInteger above, BigInteger below, int what) {
            return (what == 0 ? above : below).divide(above.gcd(below)).longValueExact();
        }

        private static long part(long above, long below, int what) {
            return part(BigInteger.valueOf(above), BigInteger.valueOf(below), what);
        }

        int right(int call, int what) {
            return noCall(call) || what < 0 || what > 1 ? -2 : (int) part(heard(call).get(told.calls.get(call)), 10000, what);
        }

        private int twistsOf(int call) {
            return heard(call).entrySet().stream().filter(e -> e.getKey().equals("top bottom") || e.getKey().equals("bottom top"))
                .mapToInt(Map.Entry::getValue).sum();
        }

        int twists(int call, int what) {
            return noCall(call) || what < 0 || what > 1 ? -2 : (int) part(twistsOf(call), 10000, what);
        }

        int mend(int call, int what) {
            if (noCall(call) || what < 0 || what > 1 || means(call) > 1) {
                return -2;
            }
            // Called 1 / (1 - t) times in the mean, and untwisted once less.
            long fine = 10000 - twistsOf(call);
            return (int) part(10000L * (takes(0) + takes(9)) - fine * takes(9), fine, what);
        }

        long chance(int slot, int what) {
            if (what < 0 || what > 1) {
                return -2;
            }
            int bad = badRow(slot, told == null ? 0 : told.calls.size());
            if (bad != 0) {
                return bad;
            }
            BigInteger above = BigInteger.ONE;
            BigInteger below = BigInteger.ONE;
            int slips = 0;
            for (long c : rows[slot]) {
                for (String act : told.calls.get((int) c).split(" ")) {
                    slips += tells(act) ? 1 : 0;
                }
                above = above.multiply(BigInteger.valueOf(right((int) c, 0)));
                below = below.multiply(BigInteger.valueOf(right((int) c, 1)));
            }
            return slips > 8 ? -1 : part(above, below, what);
        }

        int out(int what) {
            return told == null || what < 0 || what > 1 ? -2 : Math.abs(now().twist) * (what == 0 ? 1 : takes(9));
        }

        // ---- the press

        int fits() {
            if (told == null) {
                return -2;
            }
            if (told.press == 0) {
                return -1;
            }
            int n = 0;
            while ((n + 1) * state(6) <= told.press) {
                n++;
            }
            return n;
        }

        int packs(int slot, int what) {
            if (told == null || slot < 0 || slot > 3 || what < 0 || what > 1) {
                return -2;
            }
            if (rows[slot] == null) {
                return -6;
            }
            for (long v : rows[slot]) {
                if (v < 0) {
                    return -2;
                }
            }
            if (told.press == 0) {
                return -1;
            }
            TreeMap<Long, Integer> most = new TreeMap<>(Map.of(0L, 0));
            for (long v : rows[slot]) {
                for (Map.Entry<Long, Integer> e : new TreeMap<>(most).entrySet()) {
                    if (v <= told.press - e.getKey()) {
                        most.merge(e.getKey() + v, e.getValue() + 1, Math::max);
                    }
                }
            }
            return what == 0 ? most.lastKey().intValue() : most.values().stream().mapToInt(n -> n).max().getAsInt();
        }

        int thin() {
            if (told == null) {
                return -2;
            }
            if (told.press == 0) {
                return -1;
            }
            int more = fits() + 1;
            for (int by = 1; by < state(6); by++) {
                if ((state(6) - by) * more <= told.press) {
                    return by;
                }
            }
            return -1;
        }

        // ---- PAIRS and PILES

        private boolean noPair(int pair) {
            return told == null || pair < 0 || pair >= told.pairs.size();
        }

        private static int sheet(int[] pair, int k) {
            return pair[0] + pair[1] / (k + 1);
        }

        private static int learned(int[] pair, int n) {
            int sum = 0;
            for (int k = 0; k < n; k++) {
                sum += sheet(pair, k);
            }
            return sum;
        }

        int learn(int pair, int n) {
            return noPair(pair) || n < 0 || n > 999 ? -2 : learned(told.pairs.get(pair), n);
        }

        int skilled(int pair, int n) {
            if (noPair(pair)) {
                return -2;
            }
            int k = 0;
            while (k < 999 && sheet(told.pairs.get(pair), k) > n) {
                k++;
            }
            return k == 999 ? -1 : k;
        }

        int soonest(int n) {
            if (told == null || n < 1 || n > 999) {
                return -2;
            }
            int best = -1;
            for (int p = 0; p < told.pairs.size(); p++) {
                best = best < 0 || learn(p, n) < learn(best, n) ? p : best;
            }
            return best;
        }

        /** Every share is tried: the least seconds, and behind them the first row of PAIRS. */
        private int[] shared(List<int[]> pairs) {
            int n = told.piles.size();
            int[] best = null;
            int all = (int) Math.pow(pairs.size(), n);
            int[][] times = new int[pairs.size()][361];
            for (int p = 0; p < pairs.size(); p++) {
                for (int k = 0; k < 360; k++) {
                    times[p][k + 1] = times[p][k] + sheet(pairs.get(p), k);
                }
            }
            for (int code = 0; code < all; code++) {
                int[] row = new int[n + 1];
                int[] sheets = new int[pairs.size()];
                int rest = code;
                for (int i = n; i > 0; i--) {
                    row[i] = rest % pairs.size();
                    rest /= pairs.size();
                    sheets[row[i]] += told.piles.get(i - 1);
                }
                for (int p = 0; p < pairs.size(); p++) {
                    row[0] = Math.max(row[0], times[p][sheets[p]]);
                }
                best = best == null || row[0] < best[0] ? row : best;
            }
            return best;
        }

        int friday() {
            return told == null ? -2 : told.piles.isEmpty() ? 0 : told.pairs.isEmpty() ? -1 : shared(told.pairs)[0];
        }

        int given(int pile) {
            if (told == null || pile < 0 || pile >= told.piles.size()) {
                return -2;
            }
            return told.pairs.isEmpty() ? -1 : shared(told.pairs)[pile + 1];
        }

        int helps(int pair) {
            if (noPair(pair)) {
                return -2;
            }
            List<int[]> more = new ArrayList<>(told.pairs);
            more.add(told.pairs.get(pair));
            return told.piles.isEmpty() ? 0 : friday() - shared(more)[0];
        }

        // ---- DRAWS

        private int[] draws(int seed, int slot) {
            BigInteger x = BigInteger.valueOf(seed);
            Stand s = now();
            int sec = gone();
            int slips = 0;
            for (long c : rows[slot]) {
                String[] acts = told.calls.get((int) c).split(" ");
                for (int k = 0; k < 2; k++) {
                    if (tells(acts[k])) {
                        x = x.multiply(BigInteger.valueOf(1103515245)).add(BigInteger.valueOf(12345))
                            .mod(BigInteger.valueOf(2147483648L));
                        if (x.longValue() / 65536 % 100 < (k == 0 ? told.herSlips : told.hisSlips)) {
                            slips++;
                            acts[k] = other(acts[k]);
                        }
                    }
                }
                int act = meaning(acts[0] + " " + acts[1]);
                Stand next = acted(s, act);
                if (next != null) {
                    s = next;
                    sec += takes(act);
                }
            }
            planStand = s;
            return new int[] {sec, slips};
        }

        private int badDraw(int seed, int slot) {
            return seed < 0 || seed > 2_000_000_000 ? -2 : badRow(slot, told == null ? 0 : told.calls.size());
        }

        int drawn(int seed, int slot, int what) {
            int bad = what < 0 || what > 7 ? -2 : badDraw(seed, slot);
            if (bad != 0) {
                return bad == -6 ? -600 : -100;
            }
            int sec = draws(seed, slot)[0];
            return view(planStand, sec, what);
        }

        int slipped(int seed, int slot) {
            return badDraw(seed, slot) != 0 ? badDraw(seed, slot) : draws(seed, slot)[1];
        }

        int years(int seed, int n, int slot) {
            int bad = n < 1 || n > 20 ? -2 : badDraw(seed, slot);
            int good = 0;
            for (int i = 0; bad == 0 && i < n; i++) {
                good += draws(seed + i, slot)[1] == 0 ? 1 : 0;
            }
            return bad != 0 ? bad : good;
        }

        // ---- counts, images, rows

        int count(int what) {
            if (what == 9) {
                return tape.length();
            }
            if (what == 10) {
                return (int) Arrays.stream(rows).filter(r -> r != null).count();
            }
            if (what < 0 || what > 10) {
                return -1;
            }
            if (told == null) {
                return 0;
            }
            return new int[] {told.calls.size(), told.pairs.size(), told.piles.size(), told.room, told.arms, told.press,
                done.size(), told.wish == null ? 0 : 1, told.lines}[what];
        }

        int image(int k) {
            if (k < 0 || k > 2) {
                return -2;
            }
            kept[k] = new Kept(told, new ArrayList<>(done), new ArrayList<>(stands), new ArrayList<>(seconds));
            return 0;
        }

        int back(int k) {
            if (k < 0 || k > 2) {
                return -2;
            }
            if (kept[k] == null) {
                return -6;
            }
            told = kept[k].told;
            done = new ArrayList<>(kept[k].done);
            stands = new ArrayList<>(kept[k].stands);
            seconds = new ArrayList<>(kept[k].seconds);
            return 0;
        }

        int row(int slot, int width, int n) {
            if (slot < 0 || slot > 3 || width < 0 || width > 3 || n > 60) {
                return -2;
            }
            if (n < 0) {
                return -3;
            }
            rows[slot] = new long[n];
            widths[slot] = width;
            return 0;
        }

        int write(int slot, int i, long v) {
            if (slot < 0 || slot > 3) {
                return -2;
            }
            if (rows[slot] == null) {
                return -6;
            }
            if (i < 0 || i >= rows[slot].length) {
                return -7;
            }
            int off = 64 - (8 << widths[slot]);
            rows[slot][i] = v << off >> off;
            return 0;
        }

        int paste(int slot, int i, int to, int k, int n) {
            if (slot < 0 || slot > 3 || to < 0 || to > 3) {
                return -2;
            }
            if (rows[slot] == null || rows[to] == null) {
                return -6;
            }
            if (widths[slot] != widths[to]) {
                return -8;
            }
            if (i < 0 || k < 0 || n < 0 || (long) i + n > rows[slot].length || (long) k + n > rows[to].length) {
                return -7;
            }
            long[] were = rows[slot].clone();
            for (int j = 0; j < n; j++) {
                rows[to][k + j] = were[i + j];
            }
            return 0;
        }
    }
}
