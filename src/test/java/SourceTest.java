import java.io.IOException;
import java.nio.file.Files;
import java.nio.file.Path;
import java.util.List;
import java.util.Set;
import java.util.regex.Matcher;
import java.util.regex.Pattern;

/** What LANGUAGE.md says of the text of the class, as far as it can be seen in its single lines. */
final class SourceTest {
    private static final Path SOURCE = Path.of("src", "main", "java", "Latticehear.java");
    private static final int LONGEST_METHOD = 60;
    /** How many methods the document's face has. */
    private static final int FACE = 29;
    private static final Pattern HEAD = Pattern.compile("( {4}| {8})(?!if|for|while|switch|do|else|return|\\})\\w.*\\).*\\{");
    private static final Set<String> LIBRARY = Set.of("Math.min", "Math.max", "Math.floorDiv", "Arrays.fill", "System.arraycopy");
    private static final Set<String> EXCEPTIONS = Set.of("IllegalStateException", "IllegalArgumentException", "IndexOutOfBoundsException");
    /** Words that the class has no use for, by the rules 2, 3, 4 and 6. */
    private static final String[] UNUSED = {"try", "catch", "finally", "synchronized", "assert", "instanceof", "var", "volatile",
        "native", "transient", "package", "protected", "Object", "Thread", "Random", "equals", "hashCode", "toString", "getClass"};

    public static void main(String[] args) throws IOException {
        List<String> lines = Files.readAllLines(SOURCE);
        StringBuilder code = new StringBuilder();
        for (String line : lines) {
            Check.that("all signs are 1 to 127: " + line, line.chars().allMatch(sign -> sign >= 1 && sign <= 127));
            code.append(withoutComment(line)).append('\n');
        }
        unused(code.toString());
        library(code.toString());
        thrown(code.toString());
        constants(lines);
        lengths(lines);
        Check.end();
    }

    private static String withoutComment(String line) {
        String told = line.strip();
        boolean comment = told.startsWith("//") || told.startsWith("*") || told.startsWith("/*");
        return comment ? "" : line.replaceAll("//.*", "").replaceAll("\"[^\"]*\"", "\"\"");
    }

    private static void unused(String code) {
        for (String word : UNUSED) {
            Check.that("without " + word, !Pattern.compile("\\b" + word + "\\b").matcher(code).find());
        }
        for (String sign : new String[] {"->", "::", "@", "\" +", "+ \"", "double"}) {
            Check.that("without " + sign, !code.contains(sign));
        }
    }

    private static void library(String code) {
        Matcher imports = Pattern.compile("import ([^;]*);").matcher(code);
        while (imports.find()) {
            Check.same("import of " + imports.group(1), imports.group(1).equals("java.util.Arrays") ? 1 : 0, 1);
        }
        Matcher calls = Pattern.compile("\\b(Math|Arrays|System|Integer|Long|String|Float)\\.\\w+").matcher(code);
        while (calls.find()) {
            Check.that(calls.group() + " is one of " + LIBRARY, LIBRARY.contains(calls.group()));
        }
    }

    private static void thrown(String code) {
        Matcher throwing = Pattern.compile("\\bthrow\\b([^;]*);").matcher(code);
        while (throwing.find()) {
            String made = throwing.group(1).strip();
            boolean holds = EXCEPTIONS.stream().anyMatch(one -> made.equals("new " + one + "(\"\")"));
            Check.that("thrown is one of " + EXCEPTIONS + ": " + made, holds);
        }
    }

    private static void constants(List<String> lines) {
        for (String line : lines) {
            if (line.matches("\\s+(public |private )?static [^(]*=.*")) {
                Check.that("a constant: " + line.strip(), line.matches(".* static final (int|long|boolean|char|String) .*"));
            }
        }
    }

    private static void lengths(List<String> lines) {
        int methods = 0;
        for (int from = 0; from < lines.size(); from++) {
            if (HEAD.matcher(lines.get(from)).matches()) {
                methods++;
                String end = lines.get(from).replaceAll("\\S.*", "}");
                int to = from + 1;
                while (to < lines.size() && !lines.get(to).equals(end)) {
                    to++;
                }
                Check.that("at most " + LONGEST_METHOD + " lines: " + lines.get(from).strip(), to - from < LONGEST_METHOD);
            }
        }
        Check.that("methods are seen, " + methods, methods > FACE);
    }
}
