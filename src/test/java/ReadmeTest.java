import java.lang.reflect.Method;
import java.nio.file.Files;
import java.nio.file.Path;
import java.util.List;
import java.util.regex.Matcher;
import java.util.regex.Pattern;

/** README.md: the table has every promise with its call, and what its examples answer is what they say. */
public final class ReadmeTest {
    private static final String[] CALLS_FROM_PROMISE_1 = {
        "new BellsThatEat()", "bell(kind, v, fed)", "of(bell, what)", "fill(bell, n)", "store(food, n)",
        "row(bell, part, n)", "feed(sign)", "upland()", "told(what)", "eats(bell, food)", "pass(n)", "strike(bell)",
        "on(n, what)", "tuned(bell, what)", "all()", "meal(bell, what)", "came(bell, n)", "dear(bell)", "ring(k)",
        "peal(bell)", "good(what)", "towers()", "see(bell, fed, n)", "can(bell, what)", "odds(bell, part)",
        "mean(n, part)", "feeding(bell, food)", "gone(what)", "book(bell, fed)", "looked()", "judge(tape, i)",
        "image()", "undo()", "act(bell, act, x)", "trace(i)", "taken(bell, k)", "count(what)", "tape(tape, sort, n)",
        "item(tape, i, v)", "read(tape, i)", "shift(tape, i, other, j, n)"
    };
    private static final int PROMISES = 41, FEWEST_EXAMPLES = 45;
    private static final Pattern TEXT = Pattern.compile("for \\(char c : \"(.*)\"\\.toCharArray\\(\\)\\) x\\.feed\\(c\\);");
    private static final Pattern CALL = Pattern.compile("x\\.(\\w+)\\((.*)\\);\\s+// (NO|-?\\d+):.*");
    private static int checks;
    private static int wrong;

    private static void due(String what, boolean is) {
        checks++;
        if (!is) {
            wrong++;
            System.out.println("not so: " + what);
        }
    }

    private static void table(List<String> lines) {
        due("a call of each promise", CALLS_FROM_PROMISE_1.length == PROMISES);
        for (int p = 1; p <= CALLS_FROM_PROMISE_1.length; p++) {
            String row = "| " + p + " | `" + CALLS_FROM_PROMISE_1[p - 1] + "` |";
            due(row, lines.stream().filter(line -> line.startsWith(row)).count() == 1);
        }
    }

    private static long answer(BellsThatEat x, String name, String args) throws Exception {
        String[] numbers = args.isEmpty() ? new String[0] : args.split(", ");
        for (Method m : BellsThatEat.class.getMethods()) {
            if (m.getName().equals(name) && m.getParameterCount() == numbers.length) {
                Object[] given = new Object[numbers.length];
                for (int i = 0; i < given.length; i++) {
                    boolean isLong = m.getParameterTypes()[i] == long.class;
                    given[i] = isLong ? (Object) Long.valueOf(numbers[i]) : (Object) Integer.valueOf(numbers[i]);
                }
                return ((Number) m.invoke(x, given)).longValue();
            }
        }
        due(name + " is a call", false);
        return 0;
    }

    private static BellsThatEat example(BellsThatEat before, String line) throws Exception {
        if (line.equals("BellsThatEat x = new BellsThatEat();")) {
            return new BellsThatEat();
        }
        Matcher text = TEXT.matcher(line);
        Matcher call = CALL.matcher(line);
        if (before != null && text.matches()) {
            for (char c : text.group(1).toCharArray()) {
                due("feed of " + line, before.feed(c) > 0);
            }
        } else if (before != null && call.matches()) {
            long want = call.group(3).equals("NO") ? BellsThatEat.NO : Long.parseLong(call.group(3));
            long got = answer(before, call.group(1), call.group(2));
            due(line + " (it answered " + got + ")", want == got);
        } else {
            due("an example that can be run: " + line, false);
        }
        return before;
    }

    private static void examples(List<String> lines) throws Exception {
        boolean isCode = false;
        int examples = 0;
        BellsThatEat x = null;
        for (String line : lines) {
            if (line.startsWith("```")) {
                isCode = line.equals("```java");
                x = null;
            } else if (isCode) {
                x = example(x, line);
                examples++;
            }
        }
        due("there are examples", examples >= FEWEST_EXAMPLES);
    }

    public static void main(String[] args) throws Exception {
        List<String> lines = Files.readAllLines(Path.of("README.md"));
        table(lines);
        examples(lines);
        System.out.println(checks + " things of README.md looked at, " + wrong + " not so");
        if (wrong != 0) {
            System.exit(1);
        }
    }
}
