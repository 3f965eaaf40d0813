import java.io.IOException;
import java.nio.charset.StandardCharsets;
import java.nio.file.Files;
import java.nio.file.Path;
import java.util.List;
import java.util.regex.Matcher;
import java.util.regex.Pattern;

/** What of LANGUAGE.md can be read off the class's lines. */
public final class LanguageTests {
    private static final Path SOURCE = Path.of("src/main/java/SmellMap.java");
    private static final int LONGEST_METHOD = 60;

    public static void main(String[] args) throws IOException {
        String whole = Files.readString(SOURCE, StandardCharsets.ISO_8859_1);
        String code = withoutComments(whole);
        signs(whole);
        library(code);
        words(code);
        methods(List.of(code.split("\n")));
        Check.close("LanguageTests");
    }

    private static String withoutComments(String whole) {
        return whole.replaceAll("(?s)/\\*.*?\\*/", "").replaceAll("//[^\n]*", "");
    }

    private static void signs(String whole) {
        for (int i = 0; i < whole.length(); i++) {
            char c = whole.charAt(i);
            if (c != '\n' && (c < 32 || c > 126)) {
                Check.due("a sign at " + i, c, ' ');
            }
        }
    }

    /** Rule 4: what is called of the library, and what is imported. */
    private static void library(String code) {
        Matcher calls = Pattern.compile("\\b(System|Arrays|Integer|Long|Math|String|Character|List)\\.(\\w+)").matcher(code);
        List<String> allowed = List.of("System.arraycopy", "Arrays.fill", "Integer.bitCount", "Math.min", "Math.max");
        while (calls.find()) {
            Check.due(calls.group() + " is of the library told", allowed.contains(calls.group()), true);
        }
        Matcher imports = Pattern.compile("(?m)^import (.*);$").matcher(code);
        while (imports.find()) {
            Check.due("import " + imports.group(1),
                List.of("java.util.Arrays", "java.util.NoSuchElementException").contains(imports.group(1)), true);
        }
        Check.due("no package", code.contains("package "), false);
    }

    private static void words(String code) {
        String[] none = {"->", "::", "catch", "finally", "try {", "synchronized", "assert", "instanceof", "record", "var ",
            "float", "double", "Exact", "toString", "equals", "hashCode", "Object", "StringBuilder", "\"", "volatile",
            "transient", "native", "goto", "protected", "System.out", "Random", "nanoTime", "Thread", "static {"};
        for (String word : none) {
            Check.due("the class has " + word, code.contains(word), false);
        }
        Matcher thrown = Pattern.compile("throw .*").matcher(code);
        while (thrown.find()) {
            Check.due(thrown.group(), thrown.group().equals("throw new NoSuchElementException();"), true);
        }
    }

    /** Rules 11 and 12: methods stay short, and only a constructor or a field makes an object. */
    private static void methods(List<String> lines) {
        Pattern head = Pattern.compile("^( {4}| {8})(?!\\}|if|for|while|switch|return|else)\\w.*\\) (throws \\w+ )?\\{$");
        String name = null;
        String indent = "";
        int from = 0;
        for (int i = 0; i < lines.size(); i++) {
            String line = lines.get(i);
            Matcher m = head.matcher(line);
            if (name == null && m.matches()) {
                name = line.trim();
                indent = m.group(1);
                from = i;
            } else if (name != null && line.equals(indent + "}")) {
                Check.due(name + " is short", i - from < LONGEST_METHOD, true);
                name = null;
            } else if (name != null && line.contains("new ") && !line.contains("throw new ")) {
                Check.due(name + " makes an object", name.equals("public SmellMap() {"), true);
            }
        }
        Check.due("the lines end outside of methods", name == null, true);
    }
}
