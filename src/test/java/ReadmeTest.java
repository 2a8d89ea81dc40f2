import java.io.IOException;
import java.nio.file.Files;
import java.nio.file.Path;
import java.util.ArrayList;
import java.util.List;

/**
 * The calls of README.md's 'Use' answer what its remarks say. That the calls made here are those written there is seen
 * by comparing the two texts, so the test is run from the project's directory.
 */
final class ReadmeTest {
    private static final Path README = Path.of("README.md");
    private static final Path HERE = Path.of("src/test/java/ReadmeTest.java");

    public static void main(String[] args) throws IOException {
        List<String> lines = between(README, "```java", "```");
        List<String> calls = calls(lines);
        Check.due("README makes the calls that are made here: " + calls,
            calls.equals(calls(between(HERE, "    private static List<Long> answers() {", "    }"))), true);
        List<Long> remarks = remarks(lines);
        List<Long> answers = answers();
        Check.due("remarks that tell an answer", remarks.size(), answers.size());
        for (int i = 0; i < Math.min(remarks.size(), answers.size()); i++) {
            Check.due("README's answer " + (i + 1), answers.get(i), remarks.get(i));
        }
        Check.end();
    }

    private static List<String> between(Path file, String first, String last) throws IOException {
        List<String> lines = Files.readAllLines(file);
        int from = lines.indexOf(first) + 1;
        List<String> rest = lines.subList(from, lines.size());
        return rest.subList(0, Math.max(0, rest.indexOf(last)));
    }

    /** Each line's call with its arguments, up to the parenthesis that ends it. */
    private static List<String> calls(List<String> lines) {
        List<String> calls = new ArrayList<>();
        for (String line : lines) {
            int from = line.indexOf("plan.");
            int to = line.indexOf(')', from);
            if (from >= 0 && to > from) {
                calls.add(line.substring(from, to + 1));
            }
        }
        return calls;
    }

    private static List<Long> remarks(List<String> lines) {
        List<Long> remarks = new ArrayList<>();
        for (String line : lines) {
            int remark = line.indexOf("// ");
            if (remark >= 0) {
                remarks.add(Long.parseLong(line.substring(remark + 3).split("[^-0-9]", 2)[0]));
            }
        }
        return remarks;
    }

    private static List<Long> answers() {
        List<Long> answers = new ArrayList<>();
        KeyPlan plan = new KeyPlan();
        int editor = plan.context(0);
        answers.add((long) editor);
        answers.add((long) plan.bind(0, 5, 7));
        answers.add((long) plan.bind(editor, 5 + 256 * 6, 9));
        answers.add((long) plan.means(editor, 5));
        answers.add((long) plan.fights(editor));
        answers.add((long) plan.fight(editor, 0, 1));
        answers.add(Check.number(plan.go(editor)));
        answers.add((long) plan.type(5, 100));
        answers.add((long) plan.type(6, 105));
        answers.add((long) plan.out(0, 0));
        answers.add((long) plan.out(0, 1));
        answers.add((long) plan.type(5, 200));
        answers.add((long) plan.settle(204));
        answers.add(Check.number(plan.uses(3, 20)));
        answers.add(Check.number(plan.stretch(21, 4)));
        answers.add(Check.number(plan.habit(8, 20, 50)));
        answers.add((long) plan.want(8, 0));
        answers.add((long) plan.want(3, editor));
        answers.add((long) plan.offer(20));
        answers.add((long) plan.offer(21));
        answers.add((long) plan.cheapest());
        answers.add((long) plan.assigned(1));
        answers.add((long) plan.broken());
        plan.keep();
        answers.add((long) plan.apply());
        answers.add((long) plan.change(1, 1));
        answers.add((long) plan.learn(0));
        answers.add((long) plan.saves(3));
        answers.add((long) plan.back());
        answers.add((long) plan.count(8));
        return answers;
    }
}
