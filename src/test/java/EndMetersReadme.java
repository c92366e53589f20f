import java.nio.file.Files;
import java.nio.file.Path;
import java.util.Arrays;
import java.util.List;
import java.util.Set;
import java.util.TreeSet;
import java.util.regex.Matcher;
import java.util.regex.Pattern;
import java.util.stream.Stream;

/**
 * README.md shows only calls with the answer that the class gives, each call of the face at least once,
 * and names the tests that there are. Run it in the project's folder.
 */
public final class EndMetersReadme {
    private static final Pattern NEW_OBJECT = Pattern.compile("EndMeters net = new EndMeters\\(\\);");
    private static final Pattern CALL = Pattern.compile("net\\.(\\w+)\\((.*?)\\); *// (-?\\d+|[A-Z]+): .*");
    private static final Set<String> CALLS = Set.of("lines", "way", "sum", "over", "on", "bad", "back", "told", "count", "fits",
        "bound", "shown", "settled", "known", "group", "lying", "offer", "offered", "advice", "sick", "pair");
    private static final Set<String> REFUSALS = Set.of("NONE", "UNKNOWN", "OUTSIDE", "STATE", "ENDLESS");

    private final Set<String> callsShown = new TreeSet<>();
    private final Set<String> wordsShown = new TreeSet<>();
    private Probe net = null;

    public static void main(String[] args) throws Exception {
        String text = Files.readString(Path.of("README.md"));
        EndMetersReadme test = new EndMetersReadme();
        Probe.sentence("what it shows as a call and its answer is what the class answers");
        test.callsAreAsShown(text);
        Probe.sentence("README.md says how to use the class");
        Probe.must(test.callsShown.equals(new TreeSet<>(CALLS)), "it shows " + test.callsShown);
        Probe.must(test.wordsShown.equals(new TreeSet<>(REFUSALS)), "it shows the answers " + test.wordsShown);
        Probe.must(text.contains("`FULL`"), "it tells of FULL");
        Probe.sentence("README.md says how to run its tests");
        testsAreNamed(text);
        Probe.finish();
    }

    /** Every line in a block of Java is looked at, so that none is shown that is not tested. */
    private void callsAreAsShown(String text) {
        boolean isJava = false;
        for (String line : text.split("\n")) {
            if (line.startsWith("```")) {
                isJava = line.equals("```java");
            } else if (isJava) {
                lineIsAsShown(line);
            }
        }
    }

    private void lineIsAsShown(String line) {
        Matcher call = CALL.matcher(line);
        if (NEW_OBJECT.matcher(line).matches()) {
            net = new Probe();
        } else if (call.matches() && net != null) {
            callsShown.add(call.group(1));
            int[] numbers = Arrays.stream(call.group(2).split(", *")).filter(word -> !word.isEmpty()).mapToInt(this::number).toArray();
            String answer = call.group(3);
            if (Character.isLetter(answer.charAt(0))) {
                wordsShown.add(answer);
            }
            net.due(number(answer), call.group(1), numbers);
        } else {
            Probe.must(false, "neither a new object nor a call with its answer: " + line);
        }
    }

    private int number(String word) {
        return switch (word) {
            case "true" -> 1;
            case "false" -> 0;
            case "NONE", "EndMeters.NONE" -> Probe.NONE;
            case "UNKNOWN" -> Probe.UNKNOWN;
            case "OUTSIDE" -> Probe.OUTSIDE;
            case "STATE" -> Probe.STATE;
            case "FULL" -> Probe.FULL;
            case "ENDLESS" -> Probe.ENDLESS;
            default -> word.startsWith("0b") ? Integer.parseInt(word.substring(2), 2) : Integer.parseInt(word);
        };
    }

    private static void testsAreNamed(String text) throws Exception {
        Set<String> named = new TreeSet<>();
        Matcher name = Pattern.compile("`(EndMeters[A-Z]\\w*)`").matcher(text);
        while (name.find()) {
            named.add(name.group(1));
        }
        try (Stream<Path> files = Files.list(Path.of("src/test/java"))) {
            List<String> tests = files.map(file -> file.getFileName().toString().replace(".java", "")).sorted().toList();
            Probe.must(List.copyOf(named).equals(tests), "it names " + named + ", there are " + tests);
        }
        Probe.must(text.contains("\n.ci/run\n") && Files.isExecutable(Path.of(".ci/run")), "it tells of .ci/run");
    }
}
