import java.io.IOException;
import java.nio.file.Files;
import java.nio.file.Path;
import java.util.regex.Matcher;
import java.util.regex.Pattern;

/** What of ../shared/LANGUAGE.md can be seen in the source's words. */
final class LanguageTest {
    private static final Due due = new Due("LanguageTest");
    private static final int LONGEST_METHOD = 60;

    public static void main(String[] args) throws IOException {
        String path = System.getProperty("source", "src/main/java/TaxOnLooks.java");
        String source = Files.readString(Path.of(path));
        String bare = source.replaceAll("(?s)/\\*.*?\\*/", "").replaceAll("//[^\n]*", "")
                .replaceAll("\"[^\"\n]*\"", "\"\"");
        String[] banned = {"throw", "throws", "try", "catch", "finally", "synchronized", "assert",
            "yield", "native", "volatile", "transient", "package", "protected", "Object", "System.out",
            "equals", "hashCode", "toString", "Random", "Thread", "Exact", "sealed", "var"};
        for (String word : banned) {
            Matcher m = Pattern.compile("\\b" + Pattern.quote(word) + "\\b").matcher(bare);
            due.holds("no " + word, !m.find());
        }
        due.holds("no lambda, no arrow", !bare.contains("->"));
        due.holds("no method reference", !bare.contains("::"));
        due.holds("no joining of texts by +", !bare.contains("\" +") && !bare.contains("+ \""));
        due.holds("no static block", !Pattern.compile("\\bstatic\\s*\\{").matcher(bare).find());
        Matcher imports = Pattern.compile("(?m)^import (.*);").matcher(bare);
        while (imports.find()) {
            due.holds("import", imports.group(1).equals("java.util.Arrays"));
        }
        loops(bare);
        lines(source);
        due.end();
    }

    private static void loops(String bare) {
        // The class has counted loops alone: so each one's end is seen from its head.
        due.holds("no while", !Pattern.compile("\\bwhile\\b").matcher(bare).find());
        Matcher fors = Pattern.compile("\\bfor \\((.*)\\) \\{").matcher(bare);
        int n = 0;
        while (fors.find()) {
            n++;
            boolean counted = Pattern.compile("int (\\w+) = \\w+; \\1 <=? [^;]+; \\1\\+\\+")
                    .matcher(fors.group(1)).matches();
            due.holds("counted: " + fors.group(1), counted || fors.group(1).contains(" : "));
        }
        due.holds("loops", n > 0);
    }

    private static void lines(String source) {
        int begun = -1;
        String[] lines = source.split("\n", -1);
        Pattern head = Pattern.compile("^( {4}| {8})(?! ).*\\) \\{$");
        String indent = "";
        for (int i = 0; i < lines.length; i++) {
            due.holds("line " + (i + 1) + " is 110 long at most", lines[i].length() <= 110);
            Matcher m = head.matcher(lines[i]);
            if (begun < 0 && m.matches()) {
                begun = i;
                indent = m.group(1);
            } else if (begun >= 0 && lines[i].equals(indent + "}")) {
                due.holds("line " + (begun + 1) + " short", i - begun < LONGEST_METHOD);
                begun = -1;
            }
        }
    }
}
