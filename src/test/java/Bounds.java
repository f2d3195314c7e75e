import java.io.IOException;
import java.nio.file.Files;
import java.nio.file.Path;
import java.util.LinkedHashMap;
import java.util.Map;
import java.util.function.ToLongFunction;
import java.util.regex.Matcher;
import java.util.regex.Pattern;

/** What the tests of bounds share: the sentence that is asked for, what is due, which words no test asks for. */
final class Bounds {
    private static final Pattern WORD = Pattern.compile("\\w+");
    private static final Map<String, String> SECTIONS = new LinkedHashMap<>();
    private static final Map<String, boolean[]> QUOTED = new LinkedHashMap<>();
    private static String words = "";
    private static int sentences = 0;
    private static int askedOfIt = 1;
    private static int asked = 0;
    private static int wrong = 0;

    private Bounds() {
    }

    /** The document, each section of it as one line. */
    static void read(Path document) throws IOException {
        for (String part : Files.readString(document).split("\n## ")) {
            String name = part.substring(0, part.indexOf('\n')).replaceFirst(":.*", "");
            String text = part.substring(part.indexOf('\n')).replaceAll("\\s+", " ");
            // The numbers of the document's parts and its marks of code are no sentences.
            SECTIONS.put(name, text.replaceAll("==== \\d\\.|```\\w*", ""));
            QUOTED.put(name, new boolean[text.length()]);
        }
    }

    /** What is asked from here on is asked for this sentence, which must stand in its section just once. */
    static void says(String section, String sentence) {
        endSentence();
        words = section + ": " + sentence;
        askedOfIt = 0;
        sentences++;
        String text = SECTIONS.getOrDefault(section, "");
        int at = text.indexOf(sentence);
        if (at < 0 || text.indexOf(sentence, at + 1) >= 0) {
            fail("does not stand there just once");
            return;
        }
        java.util.Arrays.fill(QUOTED.get(section), at, at + sentence.length(), true);
    }

    private static void endSentence() {
        if (askedOfIt == 0) {
            fail("nothing is asked for it");
        }
    }

    private static void fail(String why) {
        wrong++;
        System.out.println(words + "\n    " + why);
    }

    private static String place() {
        return StackWalker.getInstance().walk(frames -> frames
            .filter(f -> !f.getClassName().equals("Bounds") && !f.getMethodName().equals("due"))
            .findFirst().map(f -> f.getFileName() + ":" + f.getLineNumber()).orElse("?"));
    }

    static void due(long got, long want) {
        asked++;
        askedOfIt++;
        if (got != want) {
            fail(place() + " answered " + got + ", due is " + want);
        }
    }

    static void due(boolean got, boolean want) {
        due(got ? 1 : 0, want ? 1 : 0);
    }

    /** The call answers so and leaves the full city as it was, its tape too. */
    static void refused(String tape, long want, ToLongFunction<StruckBeats> call) {
        leaves(tape, want, call, false);
    }

    /** The call answers so and leaves the full city as it was, but that its tape is empty. */
    static void emptied(String tape, long want, ToLongFunction<StruckBeats> call) {
        leaves(tape, want, call, true);
    }

    private static void leaves(String tape, long want, ToLongFunction<StruckBeats> call, boolean isEmptied) {
        StruckBeats one = Cities.full(tape);
        StruckBeats other = Cities.full(tape);
        due(call.applyAsLong(one), want);
        if (isEmptied) {
            other.check(0);
        }
        due(Cities.seen(one).equals(Cities.seen(other)), true);
    }

    /** How many answers were wrong, and how many words of the document that promise something are in no sentence that was asked for. */
    static int report() {
        endSentence();
        int unasked = 0;
        for (String section : SECTIONS.keySet()) {
            if (section.equals("What it is") || section.equals("Terms") || section.startsWith("Promise")) {
                unasked += unasked(section);
            }
        }
        System.out.println(sentences + " sentences, " + asked + " asked, " + wrong + " wrong, " + unasked + " words not asked for");
        return wrong + unasked;
    }

    /** A promise begins with the call's face, which is no sentence. */
    private static int unasked(String section) {
        String text = SECTIONS.get(section);
        boolean[] quoted = QUOTED.get(section);
        int found = 0;
        Matcher m = WORD.matcher(text);
        for (int from = section.startsWith("Promise") ? text.indexOf("`:") : 0; m.find(from); from = m.end()) {
            if (!quoted[m.start()] || !quoted[m.end() - 1]) {
                found++;
                System.out.println(section + ": no test asks for " + m.group() + ", at " + m.start());
            }
        }
        return found;
    }
}
