import java.io.IOException;
import java.io.UncheckedIOException;
import java.nio.file.Files;
import java.nio.file.Path;
import java.util.ArrayList;
import java.util.HashSet;
import java.util.List;
import java.util.Set;
import java.util.TreeMap;

/**
 * The sentences of DOC.md, told promise by promise (0: the terms at its head). A test names the sentence
 * that it is about; end() finds the sentences that no test named, and the names that stand nowhere.
 */
final class Sentences {
    private static final int TERMS = 0;
    private static final int PROMISES = 84;

    /** These name no boundary by themselves; the other tests look at them. */
    private static final Set<String> PLAIN = Set.of("All numbers are integers, except for meanDuty()",
            "Time is in days, weights in kilograms, money in crowns", "what later calls answer is free",
            "Returns the kind", "Returns the weight", "Returns the value", "Returns the chamber", "Returns the age",
            "Returns the duty", "Returns the crowns", "Returns the days", "Returns the rate", "Returns the number",
            "Returns the number of the entry", "Returns the number of the seal", "Returns true if it is",
            "Returns the number of days", "Returns the number of entries");

    private static final TreeMap<Integer, List<String>> SECTIONS = read();
    private static final Set<String> TESTED = new HashSet<>();

    private static int section = TERMS;
    private static String named = null;
    private static int lookedBefore = 0;

    private Sentences() {
    }

    static void terms() {
        finish();
        section = TERMS;
    }

    static void promise(int number) {
        finish();
        section = number;
    }

    /** The checks that follow are about this sentence (or a part of one) of the promise. */
    static void says(String words) {
        finish();
        named = words;
        Check.about(place(section) + ", «" + words + "»");
        lookedBefore = Check.looked();
        if (!stands(words)) {
            Check.compare("DOC.md", "has this sentence", "has none such");
        }
    }

    static void end() {
        finish();
        for (int number : SECTIONS.keySet()) {
            Check.about(place(number));
            for (String sentence : SECTIONS.get(number)) {
                boolean due = !PLAIN.contains(sentence);
                if (due && !TESTED.contains(number + sentence)) {
                    Check.compare("«" + sentence + "»", "a test", "none");
                }
            }
        }
        Check.compare("promises", Integer.toString(PROMISES), Integer.toString(SECTIONS.size() - 1));
    }

    private static void finish() {
        if (named == null) {
            return;
        }
        if (Check.looked() == lookedBefore) {
            Check.compare("looked at", "something", "nothing");
        }
        for (String sentence : SECTIONS.get(section)) {
            if (sentence.contains(named)) {
                TESTED.add(section + sentence);
            }
        }
        named = null;
    }

    private static boolean stands(String words) {
        for (String sentence : SECTIONS.get(section)) {
            if (sentence.contains(words)) {
                return true;
            }
        }
        return false;
    }

    private static String place(int number) {
        return number == TERMS ? "terms" : "promise " + number;
    }

    private static TreeMap<Integer, List<String>> read() {
        TreeMap<Integer, List<String>> sections = new TreeMap<>();
        sections.put(TERMS, new ArrayList<>());
        int number = -1;
        for (String line : lines()) {
            if (line.startsWith("An object is used for")) {
                split(line, sections.get(TERMS));
            } else if (line.startsWith("## ")) {
                number = line.equals("## Terms") ? TERMS : numberOf(line);
            } else if (number >= TERMS && isTold(line)) {
                split(line, sections.computeIfAbsent(number, n -> new ArrayList<>()));
            }
        }
        return sections;
    }

    private static List<String> lines() {
        try {
            return Files.readAllLines(Path.of("..", "shared", "DOC.md"));
        } catch (IOException e) {
            throw new UncheckedIOException(e);
        }
    }

    private static int numberOf(String heading) {
        String begin = "## Promise ";
        if (!heading.startsWith(begin)) {
            return -1;
        }
        return Integer.parseInt(heading.substring(begin.length(), heading.indexOf(':')));
    }

    /** Headings, empty lines and the list of the face's parts promise nothing. */
    private static boolean isTold(String line) {
        return !line.isBlank() && !line.startsWith("#") && !line.startsWith("Ahead of the calls")
                && !line.equals("Chambers, seals");
    }

    private static void split(String line, List<String> sentences) {
        String text = line.startsWith("- ") ? line.substring(2) : line;
        if (text.startsWith("`") && text.contains("`: ") && !line.startsWith("- ")) {
            text = text.substring(text.indexOf("`: ") + 3);
        }
        for (String part : text.split("(?<=[.;]) ")) {
            String sentence = part.replaceAll("[.;]$", "");
            sentences.add(sentence);
        }
    }
}
