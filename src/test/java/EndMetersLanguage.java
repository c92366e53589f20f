import java.nio.file.Files;
import java.nio.file.Path;
import java.util.List;
import java.util.regex.Matcher;
import java.util.regex.Pattern;

/** Those rules of LANGUAGE.md that can be seen from the words of the source alone. Run it in the project's folder. */
public final class EndMetersLanguage {
    private static final List<String> FORBIDDEN = List.of(
        "throw", "throws", "try", "catch", "finally", "synchronized", "assert", "package", "protected", "native",
        "volatile", "transient", "var", "Object", "Random", "Thread", "System", "equals", "hashCode", "toString",
        "double", "float", "HashMap", "Long", "Exception", "->", "::", "@", "static {");
    private static int wrong = 0;

    public static void main(String[] args) throws Exception {
        String source = Files.readString(Path.of("src/main/java/EndMeters.java"));
        String code = Pattern.compile("/\\*.*?\\*/", Pattern.DOTALL).matcher(source).replaceAll(" ").replaceAll("//[^\n]*", " ");
        for (String word : FORBIDDEN) {
            String edge = Character.isLetter(word.charAt(0)) ? "\\b" : "";
            must(!Pattern.compile(edge + Pattern.quote(word) + edge).matcher(code).find(), "the source does without " + word);
        }
        must(all(code, "import [^;]*;").equals(List.of("import java.util.Arrays;")), "only java.util.Arrays is imported");
        must(all(code, "Arrays\\.\\w+").stream().allMatch("Arrays.fill"::equals), "of Arrays only fill is used");
        must(all(code, "Integer\\.\\w+").stream().allMatch("Integer.bitCount"::equals), "of Integer only bitCount is used");
        must(all(code, "\\bnew [A-Z]\\w*").size() == all(code, "= new [A-Z]\\w*").size(), "objects are made for fields alone");
        must(all(code, "\\bclass \\w+").size() <= 12, "twelve classes at most");
        for (String parameters : all(code, "\\((?:(?:int|long|boolean|[A-Z]\\w*) \\w+,? ?)+\\) \\{")) {
            must(parameters.split(",").length <= 7, "seven parameters at most: " + parameters);
        }
        must(source.chars().allMatch(c -> c < 128), "plain characters alone");
        checkLengths(source);
        System.out.println(wrong == 0 ? "the words of the source keep to the rules" : wrong + " rules broken");
        if (wrong != 0) {
            System.exit(1);
        }
    }

    private static List<String> all(String text, String pattern) {
        return Pattern.compile(pattern).matcher(text).results().map(found -> found.group()).toList();
    }

    /** A method's first line ends with a brace and its last line is a brace as deep as the first. */
    private static void checkLengths(String source) {
        Matcher method = Pattern.compile("\n( +)[^\n/*]*\\) \\{\n(.*?)\n\\1\\}", Pattern.DOTALL).matcher(source);
        while (method.find()) {
            must(method.group(2).split("\n").length <= 60, "sixty lines at most: " + method.group().trim().split("\n")[0]);
        }
    }

    private static void must(boolean holds, String what) {
        if (!holds) {
            wrong++;
            System.out.println("not so: " + what);
        }
    }
}
