import java.io.IOException;
import java.nio.file.Files;
import java.nio.file.Path;
import java.util.List;
import java.util.regex.Matcher;
import java.util.regex.Pattern;

/** Whether every word of the Terms and of the promises is quoted by a test. */
public final class DocumentTests {
    private static final Path DOC = Path.of("../shared/DOC.md");
    private static final String[] QUOTING = {"TermMeaningTests", "TermBoundaryTests", "PromiseBoundaryTests", "RefusalTests"};
    private static final Pattern PART = Pattern.compile("\"((?:[^\"\\\\]|\\\\.)*)\"");
    private static final Pattern QUOTE = Pattern.compile("\\bsays\\(((?:\"(?:[^\"\\\\]|\\\\.)*\"[\\s+]*)+)\\)");

    private static String joined(String parts) {
        StringBuilder whole = new StringBuilder();
        Matcher m = PART.matcher(parts);
        while (m.find()) whole.append(m.group(1).replace("\\\"", "\"").replace("\\\\", "\\"));
        return whole.toString();
    }

    private static void strike(String doc, boolean[] struck, String quoted) {
        for (int at = doc.indexOf(quoted); at >= 0; at = doc.indexOf(quoted, at + 1)) {
            for (int i = at; i < at + quoted.length(); i++) struck[i] = true;
        }
    }

    /** Heads, fences, and what the interface says: no sentences. */
    private static void strikeFrame(String doc, boolean[] struck) {
        Pattern frame = Pattern.compile("(?m)^## .*$|^```.*$|^`[^`]*`: |^Ahead of the calls .*---- [^(\n]*|^   USES: ");
        Matcher m = frame.matcher(doc);
        while (m.find()) {
            for (int i = m.start(); i < m.end(); i++) struck[i] = true;
        }
    }

    public static void main(String[] args) throws IOException {
        if (!Files.exists(DOC)) {
            System.out.println("the document is not at " + DOC + ": not looked up");
            return;
        }
        String doc = Files.readString(DOC);
        boolean[] struck = new boolean[doc.length()];
        strikeFrame(doc, struck);
        for (String name : List.of(QUOTING)) {
            Matcher m = QUOTE.matcher(Files.readString(Path.of("src/test/java/" + name + ".java")));
            while (m.find()) strike(doc, struck, joined(m.group(1)));
        }
        int wrong = 0;
        int end = doc.contains("## Not promised") ? doc.indexOf("## Not promised") : doc.length();
        int from = Math.max(0, doc.indexOf("## Terms"));
        StringBuilder left = new StringBuilder();
        for (int i = from; i < end; i++) {
            if (!struck[i]) left.append(doc.charAt(i));
            boolean ends = i + 1 == end || struck[i + 1];
            if (ends && left.toString().matches("(?s).*[A-Za-z].*")) {
                wrong++;
                System.out.println("no test quotes: " + left.toString().strip());
            }
            if (ends) left.setLength(0);
        }
        System.out.println(wrong == 0 ? "all of it is quoted" : wrong + " parts are not quoted");
        if (wrong != 0) System.exit(1);
    }
}
