import java.io.IOException;
import java.nio.file.Files;
import java.nio.file.Path;
import java.util.BitSet;
import java.util.Map;
import java.util.TreeMap;
import java.util.function.IntPredicate;
import java.util.function.IntUnaryOperator;

/** The sentences of ../shared/DOC.md, and the answers that are due by them: what the tests of sentences build upon. */
abstract class Sentences {
    static final int NO_SUCH = -1, BAD_VALUE = -2, BAD_TEXT = -3, TOO_MANY = -4, NOT_POSSIBLE = -5, NONE = -6;
    /** The number of "Terms" among the sections; the promises have their own numbers. */
    static final int TERMS = 0;

    private static final Path DOCUMENT = Path.of("../shared/DOC.md");
    private static final Map<Integer, String> SECTIONS = new TreeMap<>();
    private static final Map<Integer, BitSet> QUOTED = new TreeMap<>();

    private static int wrong = 0;
    private static int asked = 0;
    private static int askedBefore = 0;
    private static int sentences = 0;
    private static String current = "";

    /** Reads "Terms" and the promises, without headings and without the calls that stand ahead of a promise. */
    static void read() throws IOException {
        int section = -1;
        StringBuilder text = new StringBuilder();
        for (String line : Files.readAllLines(DOCUMENT)) {
            if (line.startsWith("## ")) {
                keep(section, text);
                section = line.equals("## Terms") ? TERMS
                        : line.startsWith("## Promise ") ? Integer.parseInt(line.substring(11, line.indexOf(':'))) : -1;
            } else if (!line.startsWith("#") && !line.startsWith("```") && !line.startsWith("Ahead of the calls")) {
                text.append(line.replaceFirst("^`[^`]*`:", "")).append(' ');
            }
        }
        keep(section, text);
    }

    private static void keep(int section, StringBuilder text) {
        if (section >= 0) {
            SECTIONS.put(section, text.toString().replaceAll("\\s+", " ").trim());
            QUOTED.put(section, new BitSet());
        }
        text.setLength(0);
    }

    private static String name(int section) {
        return section == TERMS ? "Terms" : "Promise " + section;
    }

    /** Names the sentence that the following answers rest on. */
    static void of(int section, String quote) {
        close();
        current = name(section) + ", \"" + quote + "\"";
        sentences++;
        mark(section, quote);
    }

    static void terms(String quote) {
        of(TERMS, quote);
    }

    /** A part of the document by which no answer is due. */
    static void nothingDueBy(int section, String quote) {
        mark(section, quote);
    }

    private static void mark(int section, String quote) {
        int at = SECTIONS.getOrDefault(section, "").indexOf(quote);
        if (at < 0) {
            tell("is no part of the document: " + name(section) + ", \"" + quote + "\"");
        } else {
            QUOTED.get(section).set(at, at + quote.length());
        }
    }

    private static void close() {
        if (sentences > 0 && asked == askedBefore) {
            tell("no answer is asked for: " + current);
        }
        askedBefore = asked;
    }

    private static void tell(String what) {
        wrong++;
        System.out.println(what);
    }

    static void due(String call, long got, long want) {
        asked++;
        if (got != want) {
            tell(call + " answered " + got + ", due is " + want + " by " + current);
        }
    }

    static void due(String call, String got, String want) {
        asked++;
        if (!got.equals(want)) {
            tell(call + " answered " + got + ", due is " + want + " by " + current);
        }
    }

    /** Values just outside of a range, far outside, and such as are inside if only their lowest bits are looked at. */
    private static int[] outside(int least, int most) {
        return new int[] {least - 1, least - 2, most + 1, most + 2, least - 256, most + 256, least + (1 << 16),
            most - (1 << 16), Integer.MIN_VALUE, Integer.MIN_VALUE + least + 1, Integer.MAX_VALUE, Integer.MAX_VALUE - 1};
    }

    /** All values from least to most give what is wanted; those outside are refused. */
    static void range(String what, int least, int most, int refusal, IntUnaryOperator ask, IntUnaryOperator want) {
        for (int value = least; value <= most; value++) {
            due(what + " " + value, ask.applyAsInt(value), want.applyAsInt(value));
        }
        for (int value : outside(least, most)) {
            due(what + " " + value, ask.applyAsInt(value), refusal);
        }
    }

    /** The same where it is enough that a value inside is not refused. */
    static void range(String what, int least, int most, int refusal, IntUnaryOperator ask) {
        IntPredicate refused = value -> ask.applyAsInt(value) == refusal;
        range(what + ", whether it is refused:", least, most, 1, value -> refused.test(value) ? 1 : 0, value -> 0);
    }

    /** Tells what is wrong, also if a part of the document is quoted nowhere; the number of wrong things. */
    static int end() {
        close();
        for (Map.Entry<Integer, String> each : SECTIONS.entrySet()) {
            StringBuilder rest = new StringBuilder();
            for (int i = 0; i < each.getValue().length(); i++) {
                rest.append(QUOTED.get(each.getKey()).get(i) ? '\n' : each.getValue().charAt(i));
            }
            for (String part : rest.toString().split("\n+")) {
                if (part.matches(".*[A-Za-z0-9].*")) {
                    tell("quoted nowhere: " + name(each.getKey()) + ", \"" + part.trim() + "\"");
                }
            }
        }
        if (SECTIONS.size() != 27) {
            tell("the document has " + SECTIONS.size() + " sections, not Terms and 26 promises");
        }
        System.out.println(sentences + " sentences, " + asked + " answers, " + wrong + " things not as due");
        return wrong;
    }
}
