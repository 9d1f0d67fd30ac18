import java.io.IOException;
import java.nio.file.Files;
import java.nio.file.Path;
import java.util.HashMap;
import java.util.List;
import java.util.Map;
import java.util.regex.Matcher;
import java.util.regex.Pattern;

/** README.md's example: the lines of example() below are its lines, and each answers what README.md says. */
public final class ReadmeTest {
    private static final Pattern ANSWER = Pattern.compile("(?:int|long) (\\w+) = .*; +// (-?\\d+)(?:: .*)?");

    private ReadmeTest() {
    }

    public static void main(String[] args) throws IOException {
        Path root = Path.of(args.length > 0 ? args[0] : ".");
        List<String> told = exampleOf(Files.readAllLines(root.resolve("README.md")));
        isRunHere(told, Files.readAllLines(root.resolve("src/test/java/ReadmeTest.java")));
        answersAreAsTold(told, example());
        Due.end("ReadmeTest");
    }

    private static List<String> exampleOf(List<String> readme) {
        int from = readme.indexOf("```java") + 1;
        int till = from + readme.subList(from, readme.size()).indexOf("```");
        Due.is("an example in README.md", from > 0 && till > from ? 1 : 0, 1);
        return readme.subList(from, Math.max(from, till)).stream().filter(line -> !line.isEmpty()).toList();
    }

    /** Each line of README.md's example stands in this file, in the same order. */
    private static void isRunHere(List<String> told, List<String> source) {
        int at = 0;
        for (String line : told) {
            String code = line.replaceAll(" *// .*", "");
            int found = 0;
            while (at < source.size() && !code.isEmpty() && found == 0) {
                found = source.get(at).strip().equals(code) ? 1 : 0;
                at++;
            }
            Due.is("[" + code + "] of README.md here", found, code.isEmpty() ? 0 : 1);
        }
    }

    private static void answersAreAsTold(List<String> told, Map<String, Long> answers) {
        int asked = 0;
        for (String line : told) {
            Matcher answer = ANSWER.matcher(line);
            if (answer.matches()) {
                Due.same(line, String.valueOf(answers.get(answer.group(1))), answer.group(2));
                asked++;
            }
        }
        Due.is("answers told in README.md", asked, answers.size());
    }

    private static Map<String, Long> example() {
        Map<String, Long> answers = new HashMap<>();
        TurnpikeTrust trust = new TurnpikeTrust();
        int road = trust.stretch(30);
        int gate = trust.gate(road);
        trust.feed(0x746F6C6C, 0x20353B20, 0x20202020, 0x20202020, 0x20202020);
        int act = trust.act(7, 0);
        int coach = trust.traveller(0, 4, 2, 0);
        int toll = trust.pass(coach, gate);
        int clause = trust.clause();
        long wear = trust.wear(road);
        answers.putAll(Map.of("road", (long) road, "gate", (long) gate, "act", (long) act, "coach", (long) coach,
                "toll", (long) toll, "clause", (long) clause, "wear", wear));

        int loan = trust.borrow(1_000, 50, 0);
        int loads = trust.mend(3);
        int farmer = trust.farmer(500);
        int bids = trust.bid(gate, farmer, 40, 60);
        int tenant = trust.let(gate, 4);
        int day = trust.wait(365);
        long money = trust.money(farmer);
        long box = trust.box(day);
        long sum = trust.journal(0, 3);
        answers.putAll(Map.of("loan", (long) loan, "loads", (long) loads, "farmer", (long) farmer,
                "bids", (long) bids, "tenant", (long) tenant, "day", (long) day, "money", money, "box", box, "sum", sum));

        trust.feed(0x746F6C6C, 0x20202020, 0x20202020, 0x20202020, 0x20202020);
        int refused = trust.act(4, 0);
        int place = trust.fault();
        answers.putAll(Map.of("refused", (long) refused, "place", (long) place));
        return answers;
    }
}
