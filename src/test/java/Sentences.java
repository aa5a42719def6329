import java.io.IOException;
import java.nio.file.Files;
import java.nio.file.Path;
import java.util.BitSet;
import java.util.HashSet;
import java.util.LinkedHashMap;
import java.util.Map;
import java.util.Set;
import java.util.regex.Matcher;
import java.util.regex.Pattern;

/**
 * Tests that each stand for words of the document: a test bears the section ("Term 1", "Promise 6") and the words it
 * is for. The words must stand in that section, and at the end no word of a section may be left without a test.
 */
final class Sentences {
    private static final Path DOCUMENT = Path.of("../shared/DOC.md");

    private final String title;
    private final Map<String, String> sections = new LinkedHashMap<>();
    private final Map<String, BitSet> covered = new LinkedHashMap<>();
    private final Set<String> names = new HashSet<>();
    private String name = "";
    private int asked = 0;
    private int wrong = 0;

    Sentences(String title) {
        this.title = title;
        if (!Files.exists(DOCUMENT)) {
            // The answers are due with or without it.
            System.out.println(title + ": no " + DOCUMENT + ", so the words of the tests are not compared with it");
            return;
        }
        try {
            cutAll(Files.readString(DOCUMENT).replaceAll("\\s+", " "));
        } catch (IOException lost) {
            fail("the document can't be read: " + lost);
        }
    }

    private void cutAll(String document) {
        cut(document, "What it is", "## What it is (.*?) ## ");
        cut(document, "Constants", "The constants: (.*?) Ahead of the calls ");
        cut(document, "Term 1", "## Terms 1\\. (.*?) 2\\. Of WORKERS");
        cut(document, "Term 2", " 2\\. (Of WORKERS.*?) 3\\. ACTS:");
        cut(document, "Term 3", " 3\\. (ACTS:.*?) The constants:");
        for (int k = 1; k <= 27; k++) {
            cut(document, "Promise " + k, "## Promise " + k + ": .*?`[^`]*`: (.*?) ## ");
        }
    }

    private void cut(String document, String section, String pattern) {
        Matcher matcher = Pattern.compile(pattern).matcher(document);
        if (matcher.find()) {
            String text = matcher.group(1).replace("```text ", "").replace(" ```", "");
            sections.put(section, text);
            covered.put(section, new BitSet());
        } else {
            fail("the document has no section " + section);
        }
    }

    private void fail(String why) {
        wrong++;
        System.out.println(title + ": " + why);
    }

    /** A test of some words of a section. */
    void says(String section, String words, Runnable test) {
        name = section + ", '" + words + "'";
        cover(section, words);
        if (!names.add(name)) {
            fail(name + " has two tests");
        }
        int before = asked;
        try {
            test.run();
        } catch (RuntimeException thrown) {
            fail(name + ": " + thrown);
        }
        if (asked == before) {
            fail(name + " asks nothing");
        }
    }

    private void cover(String section, String words) {
        if (!Files.exists(DOCUMENT)) {
            return;
        }
        String text = sections.getOrDefault(section, "");
        int at = text.indexOf(words);
        if (at < 0) {
            fail(name + " is not in the document");
        }
        while (at >= 0) {
            covered.get(section).set(at, at + words.length());
            at = text.indexOf(words, at + 1);
        }
    }

    void due(String call, int got, int want) {
        asked++;
        if (got != want) {
            fail(name + ": " + call + " answered " + got + ", due is " + want);
        }
    }

    void due(String call, boolean got, boolean want) {
        due(call, got ? 1 : 0, want ? 1 : 0);
    }

    /** The text is refused with this fault at this place. */
    void fault(String text, int fault, int place) {
        HangWatch x = new HangWatch();
        due("text " + text, Check.tell(x, text), -1);
        due("fault of " + text, x.fault(0), fault);
        due("place in " + text, x.fault(1), place);
    }

    void stall(HangWatch x, int k, int... parts) {
        for (int what = 0; what < parts.length; what++) {
            due("stall(" + k + ", " + what + ")", x.stall(k, what), parts[what]);
        }
    }

    /** Every letter and digit of these sections must belong to words that had a test. */
    void finish(String... whole) {
        for (String section : whole) {
            String text = sections.getOrDefault(section, "");
            StringBuilder left = new StringBuilder();
            for (int i = 0; i < text.length(); i++) {
                boolean free = Character.isLetterOrDigit(text.charAt(i)) && !covered.get(section).get(i);
                left.append(free ? text.charAt(i) : ' ');
            }
            if (!left.toString().isBlank()) {
                fail(section + " has words without a test: " + left.toString().strip().replaceAll(" +", " "));
            }
        }
        System.out.println(title + ": " + names.size() + " tests, " + asked + " answers, " + wrong + " wrong");
        if (wrong != 0) {
            System.exit(1);
        }
    }
}
