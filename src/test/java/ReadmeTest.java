import java.io.IOException;
import java.lang.reflect.Method;
import java.lang.reflect.Modifier;
import java.nio.file.Files;
import java.nio.file.Path;
import java.util.ArrayList;
import java.util.List;
import java.util.Map;
import java.util.TreeMap;
import java.util.regex.Matcher;
import java.util.regex.Pattern;

/** What README.md says of the class is so (run from the project's folder). */
public final class ReadmeTest {
    private static final int BAD = KiteTrays.BAD, STATE = KiteTrays.STATE;
    private static final String NO_ROOF_FIRST = "no roof (ahead of `BAD`)";
    private static final Map<String, Integer> NAMES =
        Map.of("NONE", KiteTrays.NONE, "BAD", BAD, "STATE", STATE, "FULL", KiteTrays.FULL);
    private static final Check check = new Check();
    private static final Map<String, Method> methods = new TreeMap<>();

    public static void main(String[] args) throws Exception {
        for (Method m : KiteTrays.class.getDeclaredMethods()) {
            if (Modifier.isPublic(m.getModifiers())) {
                methods.put(m.getName(), m);
            }
        }
        String readme = Files.readString(Path.of("README.md"));
        shownRuns(readme);
        constants(readme);
        List<Entry> entries = entries(readme);
        everyCallIsTold(entries);
        for (Entry entry : entries) {
            bounds(entry);
            withoutRoof(entry);
        }
        refusalsTold(entries);
        findings(readme);
        textBounds(readme);
        textFaults();
        check.end();
    }

    // ---- the runs that are shown

    private static void shownRuns(String readme) throws Exception {
        Matcher block = Pattern.compile("(?s)```java\n(.*?)```").matcher(readme);
        int blocks = 0;
        while (block.find()) {
            blocks++;
            shownRun(block.group(1));
        }
        check.holds("there are runs to try", blocks > 0);
    }

    private static void shownRun(String lines) throws Exception {
        Pattern fed = Pattern.compile("for \\(char c : \"([^\"]*)\"\\.toCharArray\\(\\)\\) x\\.feed\\(c\\);");
        Pattern call = Pattern.compile("x\\.(\\w+)\\(([^)]*)\\); +// (-?\\w+)(: .*)?");
        KiteTrays x = null;
        for (String line : lines.split("\n")) {
            Matcher f = fed.matcher(line);
            Matcher c = call.matcher(line);
            if (line.equals("KiteTrays x = new KiteTrays();")) {
                x = new KiteTrays();
            } else if (f.matches()) {
                Check.feed(x, f.group(1));
            } else if (c.matches()) {
                check.due(line, answer(x, c.group(1), numbers(c.group(2))), due(c.group(3)));
            } else {
                check.holds("a line that this test can't read: " + line, false);
            }
        }
    }

    private static long due(String word) {
        return NAMES.containsKey(word) ? NAMES.get(word) : Long.parseLong(word);
    }

    private static int[] numbers(String words) {
        if (words.isEmpty()) {
            return new int[0];
        }
        String[] parts = words.split(", ");
        int[] numbers = new int[parts.length];
        for (int i = 0; i < parts.length; i++) {
            numbers[i] = Integer.parseInt(parts[i]);
        }
        return numbers;
    }

    private static long answer(KiteTrays x, String name, int... numbers) throws Exception {
        Object[] boxed = new Object[numbers.length];
        for (int i = 0; i < numbers.length; i++) {
            boxed[i] = numbers[i];
        }
        return ((Number) methods.get(name).invoke(x, boxed)).longValue();
    }

    // ---- the tables

    private static void constants(String readme) {
        for (Map.Entry<String, Integer> one : NAMES.entrySet()) {
            check.holds(one.getKey() + " is told", readme.contains("| " + one.getValue() + " | `" + one.getKey() + "` |"));
        }
    }

    /** A row of the calls' table. */
    private record Entry(String face, String name, List<Taken> taken, String refuses) { }

    /** A number that a call takes: from least to most, without one. */
    private record Taken(String name, int least, int most, Integer without) {
        int plain() {
            return least == Integer.MIN_VALUE ? 0 : least;
        }
    }

    private static List<Entry> entries(String readme) {
        List<Entry> entries = new ArrayList<>();
        Matcher row = Pattern.compile("(?m)^\\| `((?:int|long) (\\w+)\\(([^)]*)\\))` \\| ?(.*?) ?\\| (.*?) \\| ?(.*?) ?\\|$").matcher(readme);
        while (row.find()) {
            List<Taken> taken = taken(row.group(4));
            String[] parameters = row.group(3).isEmpty() ? new String[0] : row.group(3).split(", ");
            check.due(row.group(1) + ": how many numbers it takes", taken.size(), parameters.length);
            for (int i = 0; i < Math.min(taken.size(), parameters.length); i++) {
                check.holds(row.group(1) + ": " + parameters[i], parameters[i].equals("int " + taken.get(i).name()));
            }
            entries.add(new Entry(row.group(1), row.group(2), taken, row.group(6)));
        }
        return entries;
    }

    private static List<Taken> taken(String words) {
        List<Taken> taken = new ArrayList<>();
        Matcher one = Pattern.compile("`(\\w+)` (?:(a paper|a wind)|(any)|up to (\\d+)|from (-?\\d+) on|(-?\\d+) to (\\d+)(?: but not (\\d+))?)").matcher(words);
        while (one.find()) {
            int least = Integer.MIN_VALUE;
            int most = Integer.MAX_VALUE;
            if (one.group(2) != null) {
                least = 0;
                most = 5;
            } else if (one.group(4) != null) {
                most = Integer.parseInt(one.group(4));
            } else if (one.group(5) != null) {
                least = Integer.parseInt(one.group(5));
            } else if (one.group(6) != null) {
                least = Integer.parseInt(one.group(6));
                most = Integer.parseInt(one.group(7));
            }
            taken.add(new Taken(one.group(1), least, most, one.group(8) == null ? null : Integer.valueOf(one.group(8))));
        }
        return taken;
    }

    private static void everyCallIsTold(List<Entry> entries) throws IOException {
        // FaceTest holds the class to the document's face.
        String code = Files.readString(Path.of("src/main/java/KiteTrays.java"));
        Matcher face = Pattern.compile("public ((?:int|long) \\w+\\([^)]*\\)) \\{").matcher(code);
        int at = 0;
        while (face.find()) {
            check.holds(face.group(1) + " is told, in the class's order", at < entries.size() && entries.get(at).face().equals(face.group(1)));
            at++;
        }
        check.due("how many calls are told", entries.size(), at);
        check.due("how many calls there are", at, methods.size());
    }

    /** Six PAPERS, six WINDS, each ROW there: so that only a number's own bound can be what is BAD. */
    private static KiteTrays whole() {
        KiteTrays x = Check.roof("r8,12;w3;w0;w1;w2;w3;w4;b5,7;f6,5;t4,6;l1,3;c2,4;t3,2;");
        for (int row = 0; row < 8; row++) {
            x.row(row, 2, 40);
        }
        return x;
    }

    private static int[] plain(Entry entry) {
        int[] numbers = new int[entry.taken().size()];
        for (int i = 0; i < numbers.length; i++) {
            numbers[i] = entry.taken().get(i).plain();
        }
        return numbers;
    }

    private static void bounds(Entry entry) throws Exception {
        for (int i = 0; i < entry.taken().size(); i++) {
            Taken one = entry.taken().get(i);
            isBad(entry, i, one.least(), false);
            isBad(entry, i, one.most(), false);
            if (one.least() != Integer.MIN_VALUE) {
                isBad(entry, i, one.least() - 1, true);
                isBad(entry, i, Integer.MIN_VALUE, true);
            }
            if (one.most() != Integer.MAX_VALUE) {
                isBad(entry, i, one.most() + 1, true);
                isBad(entry, i, Integer.MAX_VALUE, true);
            }
            if (one.without() != null) {
                isBad(entry, i, one.without() - 1, false);
                isBad(entry, i, one.without(), true);
                isBad(entry, i, one.without() + 1, false);
            }
        }
    }

    private static void isBad(Entry entry, int i, int v, boolean isDue) throws Exception {
        int[] numbers = plain(entry);
        numbers[i] = v;
        boolean is = answer(whole(), entry.name(), numbers) == BAD;
        check.holds(entry.name() + " with " + entry.taken().get(i).name() + " " + v + (isDue ? " is BAD" : " is not BAD"), is == isDue);
    }

    private static void withoutRoof(Entry entry) throws Exception {
        boolean isFirst = entry.refuses().contains(NO_ROOF_FIRST);
        if (isFirst) {
            check.due(entry.name() + " without a roof", answer(new KiteTrays(), entry.name(), plain(entry)), STATE);
        }
        if (!entry.taken().isEmpty() && entry.taken().get(0).least() != Integer.MIN_VALUE) {
            int[] numbers = plain(entry);
            numbers[0] = Integer.MIN_VALUE;
            check.due(entry.name() + " without a roof, and BAD", answer(new KiteTrays(), entry.name(), numbers), isFirst ? STATE : BAD);
        }
    }

    // ---- what is told of refusals

    private static final int FIRST_FINDING = -1000011;
    private static final String[] FINDINGS = {"NULL", "PLACE", "KIND", "SIZE", "STORE"};

    private static void refusalsTold(List<Entry> entries) throws Exception {
        for (Entry entry : entries) {
            for (String refusal : refusals(entry)) {
                check.holds(entry.name() + " can answer " + refusal, scene(entry.name(), refusal));
            }
        }
    }

    private static List<String> refusals(Entry entry) {
        List<String> names = new ArrayList<>();
        Matcher name = Pattern.compile("`?\\b(STATE|FULL|NULL|PLACE|KIND|SIZE|STORE)\\b`?").matcher(entry.refuses().replace("of `BAD`", ""));
        while (name.find()) {
            names.add(name.group(1));
        }
        return names;
    }

    private static long number(String refusal) {
        for (int i = 0; i < FINDINGS.length; i++) {
            if (FINDINGS[i].equals(refusal)) {
                return FIRST_FINDING - i;
            }
        }
        return NAMES.get(refusal);
    }

    /** Whether there is an object of which a call with numbers within the bounds told answers so. */
    private static boolean scene(String name, String refusal) throws Exception {
        KiteTrays none = new KiteTrays();
        KiteTrays full = whole();
        KiteTrays bare = whole();
        while (full.feed('a') > 0) {
            continue;
        }
        for (int i = 0; i < 41; i++) {
            full.hours(24);
        }
        for (int row = 1; row < 8; row++) {
            bare.drop(row);
        }
        bare.row(1, 1, 3);
        KiteTrays up = whole();
        up.send(0, 40);
        int[][] tried = {{}, {0}, {1}, {24}, {0, 0}, {0, 1}, {0, 2}, {0, 0, -1}, {0, 40, 0}, {7, 0, 0}, {0, 1, -1}, {0, 0, 0, 0, 1},
            {0, 0, 1, 0, 4}, {0, 0, 7, 0, 1}, {0, 0, 0, 40, 1}, {0, 0, 1, 0, 1}, {0, 0, 7, 0, 0}, {7}};
        for (KiteTrays x : new KiteTrays[] {none, full, bare, up}) {
            for (int[] numbers : tried) {
                if (numbers.length == methods.get(name).getParameterCount() && answer(x, name, numbers) == number(refusal)) {
                    return true;
                }
            }
        }
        return false;
    }

    private static void findings(String readme) {
        KiteTrays x = Check.roof("r8,12;b5,7;");
        x.row(0, 0, 1);
        x.row(1, 1, 1);
        long[] answers = {x.set(7, 0, 0), x.set(0, 1, 0), x.as(0, 4), x.row(0, 0, -1), x.copy(0, 0, 1, 0, 1)};
        for (int i = 0; i < FINDINGS.length; i++) {
            check.due(FINDINGS[i], answers[i], FIRST_FINDING - i);
            check.holds(FINDINGS[i] + " is told", readme.contains("| " + answers[i] + " | " + FINDINGS[i] + " |"));
        }
        check.due("status()", x.status(), 5);
        check.holds("status() is told", readme.contains("(1 NULL to 5 STORE)"));
    }

    // ---- what is told of the text

    /** Each bound of a NUMBER that the page tells: the last one read, and the first that is a FAULT. */
    private static void textBounds(String readme) {
        Map<String, String> forms = Map.of("STAND", "r#,1;b1,1;", "STRONG", "r1,#;b1,1;", "FORCE", "r1,1;w#;b1,1;",
            "BELLY", "r1,1;b#,1;", "WEIGHT", "r1,1;b1,#;");
        Matcher bound = Pattern.compile("\\b(STAND|STRONG|FORCE|BELLY|WEIGHT) (\\d+) to (\\d+)").matcher(tableOf(readme, "| Part |"));
        int found = 0;
        while (bound.find()) {
            found++;
            String form = forms.get(bound.group(1));
            int least = Integer.parseInt(bound.group(2));
            int most = Integer.parseInt(bound.group(3));
            check.due(form + " " + least, Check.read(new KiteTrays(), form.replace("#", "" + least)), 1);
            check.due(form + " " + most, Check.read(new KiteTrays(), form.replace("#", "" + most)), 1);
            if (least > 0) {
                isFault(form.replace("#", "" + (least - 1)), form.indexOf('#'), 2);
            }
            // A run of three figures is no NUMBER at all.
            isFault(form.replace("#", "" + (most + 1)), form.indexOf('#'), most < 99 ? 2 : 1);
        }
        check.due("bounds told", found, forms.size());
    }

    private static String tableOf(String readme, String head) {
        int at = readme.indexOf(head);
        return at < 0 ? "" : readme.substring(at, readme.indexOf("\n\n", at));
    }

    private static void textFaults() {
        String six = "r01,01;w1;w2;w3;w4;w5;w6;b1,1;f1,1;t1,1;l1,1;c1,1;b1,1;";
        check.due(six, Check.read(new KiteTrays(), six), 6);
        check.due("no wind", Check.read(new KiteTrays(), "r1,1;b1,1;"), 1);
        isFault("r1,1;", 5, 1);
        isFault("r 1,1;b1,1;", 1, 1);
        isFault("r1,1;b1,1;w1;", 10, 1);
        isFault(six.replace("b1,1;f", "w1;b1,1;f"), 25, 3);
        isFault(six + "b1,1;", six.length(), 3);
    }

    private static void isFault(String text, int place, int number) {
        KiteTrays x = Check.roof("r8,12;b5,7;f1,1;");
        check.due(text, Check.read(x, text), -1000100 - place);
        check.due(text + " fault()", x.fault(), number);
        check.due(text + " empties the tape", x.count(7), 0);
        check.due(text + " leaves the roof", x.count(1), 2);
    }
}
