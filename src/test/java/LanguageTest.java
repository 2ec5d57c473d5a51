import java.nio.file.Files;
import java.nio.file.Path;
import java.util.Arrays;
import java.util.List;
import java.util.regex.Matcher;
import java.util.regex.Pattern;

/** The rules of LANGUAGE.md that can be seen in the text of the class. */
public final class LanguageTest {
    public static void main(String[] args) throws Exception {
        String path = System.getProperty("airparted.source", "src/main/java/AirParted.java");
        String text = Files.readString(Path.of(path));
        for (int i = 0; i < text.length(); i++) {
            Check.holds("sign " + i + " is of ASCII", text.charAt(i) < 128);
        }
        String code = withoutCommentsAndLiterals(text);
        words(code);
        library(code);
        lengths(code);
        Check.end();
    }

    private static String withoutCommentsAndLiterals(String text) {
        return text.replaceAll("(?s)/\\*.*?\\*/", "").replaceAll("//[^\n]*", "").replaceAll("'(\\\\.|[^'\\\\])'", "0")
            .replaceAll("\"(\\\\.|[^\"\\\\])*\"", "S");
    }

    private static void words(String code) {
        String[] not = {"throw", "throws", "try", "catch", "finally", "synchronized", "assert", "package", "native", "volatile",
            "transient", "hashCode", "toString", "yield", "sealed", "strictfp"};
        for (String word : not) {
            Check.holds("no " + word, !Pattern.compile("\\b" + word + "\\b").matcher(code).find());
        }
        Check.holds("no lambda", !code.contains("->"));
        Check.holds("no method reference", !code.contains("::"));
        Check.holds("no class without a name", !Pattern.compile("new\\s+\\w+\\s*\\([^)]*\\)\\s*\\{").matcher(code).find());
        Check.holds("no static block", !Pattern.compile("static\\s*\\{").matcher(code).find());
        Check.holds("no array of three dimensions", !code.replaceAll("\\s", "").contains("[][][]"));
    }

    private static void library(String code) {
        List<String> imports = Arrays.asList("java.util.Arrays", "java.util.ArrayList", "java.util.List", "java.util.Iterator");
        Matcher m = Pattern.compile("import\\s+([\\w.*]+)\\s*;").matcher(code);
        while (m.find()) {
            Check.holds("import " + m.group(1), imports.contains(m.group(1)));
        }
        Matcher call = Pattern.compile("\\b(Math|Integer|Long|Arrays|System|String)\\.(\\w+)").matcher(code);
        List<String> known = Arrays.asList("Math.max", "Math.min", "Math.abs", "Math.floorDiv", "Math.floorMod", "Integer.bitCount",
            "Arrays.fill", "System.arraycopy");
        while (call.find()) {
            Check.holds(call.group() + " is of the library", known.contains(call.group()));
        }
    }

    /** A method begins with a line of depth one or two that ends in ") {". */
    private static void lengths(String code) {
        String[] lines = code.split("\n");
        for (int i = 0; i < lines.length; i++) {
            Matcher m = Pattern.compile("^( {4}| {8})\\w[^=;]*\\) \\{$").matcher(lines[i]);
            if (m.find()) {
                int end = i;
                while (end < lines.length && !lines[end].equals(m.group(1) + "}")) {
                    end++;
                }
                Check.holds(lines[i].trim() + " is short", end - i <= 60);
            }
        }
    }
}
