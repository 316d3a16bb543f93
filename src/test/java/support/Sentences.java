package support;

import java.io.IOException;
import java.nio.file.Files;
import java.nio.file.Path;
import java.util.BitSet;
import java.util.LinkedHashMap;
import java.util.Map;
import java.util.regex.Matcher;
import java.util.regex.Pattern;

/** The sentences of the document: each test quotes the one that it is for, and none may be left without a test. */
public final class Sentences {
    /** A clause ends with a full stop or a semicolon that a blank follows, or with its line. */
    private static final Pattern CLAUSE = Pattern.compile("[^\n]*?(?:[.;](?=[ \n])|\n|$)");

    private final Due due;
    private final Map<String, String> texts = new LinkedHashMap<>();
    private final Map<String, BitSet> quoted = new LinkedHashMap<>();

    public Sentences(Due due, Path document) throws IOException {
        this.due = due;
        String heading = "";
        for (String line : Files.readAllLines(document)) {
            if (line.startsWith("#")) {
                heading = line.replaceFirst("^#+ *", "");
            } else {
                texts.merge(heading, line + "\n", String::concat);
            }
        }
        for (String each : texts.keySet()) {
            quoted.put(each, new BitSet());
        }
    }

    /** The dues that follow are what these words under a heading ask for. */
    public void test(String heading, String words) {
        due.promise(heading + ", «" + words + "»");
        quote(heading, words);
    }

    /** Another test is for these words. */
    public void testedElsewhere(String heading, String words) {
        due.promise(heading);
        quote(heading, words);
    }

    private void quote(String heading, String words) {
        String text = texts.getOrDefault(heading, "");
        int at = text.indexOf(words);
        due.holds("the document says «" + words + "»", at >= 0);
        // The same words may stand there more than once: a test for them is for all of them.
        for (; at >= 0; at = text.indexOf(words, at + 1)) {
            quoted.get(heading).set(at, at + words.length());
        }
    }

    /** Each clause under the headings that begin so was quoted, as a whole or in part. */
    public void allTested(String beginning) {
        due.promise("sentences without a test");
        int headings = 0;
        for (String heading : texts.keySet()) {
            if (heading.startsWith(beginning)) {
                headings++;
                eachClauseTested(heading);
            }
        }
        due.holds("the document has the heading " + beginning, headings > 0);
    }

    private void eachClauseTested(String heading) {
        Matcher clause = CLAUSE.matcher(texts.get(heading));
        while (clause.find()) {
            if (clause.group().matches("(?s).*[A-Za-z].*")) {
                int first = quoted.get(heading).nextSetBit(clause.start());
                due.holds(heading + ": " + clause.group().trim(), first >= 0 && first < clause.end());
            }
        }
    }
}
