import java.io.IOException;
import java.nio.charset.StandardCharsets;
import java.nio.file.Files;
import java.nio.file.Path;
import java.util.ArrayList;
import java.util.BitSet;
import java.util.LinkedHashMap;
import java.util.List;
import java.util.Map;

/**
 * The sentences of the document, each with a test: a test quotes the sentence that it is of, word by
 * word, and the quote is looked up in its section. What no test quotes, and what is not said to be
 * free of tests, is told at the end.
 */
class Sentences extends Checks {
    private static final Path DOCUMENT = Path.of("../shared/DOC.md");
    private static final Map<String, String> SECTIONS = new LinkedHashMap<>();
    private static final Map<String, BitSet> QUOTED = new LinkedHashMap<>();

    /** A section that the sentences behind are of. */
    private static String section = "";

    static void section(String name) {
        section = name;
    }

    /** A section of a promise; its signature is part of the face, which FaceTest is of. */
    static void promise(int number) {
        section("Promise " + number);
        String text = SECTIONS.get(section);
        if (text != null && text.indexOf("`: ") > 0) {
            QUOTED.get(section).set(0, text.indexOf("`: ") + 3);
        }
    }

    /** A sentence, and the test that would fail if it were broken. */
    static void says(String sentence, Runnable test) {
        about = section + ", \"" + sentence + "\"";
        quote(sentence);
        int before = checks;
        try {
            test.run();
        } catch (RuntimeException e) {
            wrong++;
            System.out.println(about + ": threw " + e + " at " + e.getStackTrace()[0]);
        }
        if (checks == before) {
            wrong++;
            System.out.println(about + ": nothing is tested");
        }
    }

    /** Words that say nothing that could be broken, or that another test is of. */
    static void free(String words) {
        about = section + ", \"" + words + "\"";
        quote(words);
    }

    /** A whole section that says nothing that could be broken, or that another test is of. */
    static void freeSection(String name) {
        SECTIONS.remove(name);
    }

    private static void quote(String words) {
        String text = SECTIONS.get(section);
        if (SECTIONS.isEmpty()) {
            return;
        }
        int start = text == null ? -1 : text.indexOf(words);
        if (start < 0) {
            wrong++;
            System.out.println(about + ": these words are not in that section of the document");
            return;
        }
        QUOTED.get(section).set(start, start + words.length());
    }

    /** Reads the document by its sections, with one space wherever there are several or a new line. */
    static void read() {
        List<String> lines;
        try {
            lines = Files.readAllLines(DOCUMENT, StandardCharsets.UTF_8);
        } catch (IOException e) {
            System.out.println("the document is not there, so no quotes are looked up");
            return;
        }
        String name = "";
        Map<String, StringBuilder> texts = new LinkedHashMap<>();
        for (String line : lines) {
            if (line.startsWith("#")) {
                String heading = line.replaceFirst("^#+ ", "");
                name = heading.replaceFirst(":.*", "");
            } else {
                texts.computeIfAbsent(name, key -> new StringBuilder()).append(line).append(' ');
            }
        }
        texts.forEach((key, text) -> {
            SECTIONS.put(key, text.toString().replaceAll("\\s+", " "));
            QUOTED.put(key, new BitSet());
        });
    }

    /** Tells the words of the document that no test quotes. */
    static void tellTheRest() {
        SECTIONS.forEach((name, text) -> {
            for (String rest : unquoted(text, QUOTED.get(name))) {
                wrong++;
                System.out.println(name + ": no test is of these words: " + rest);
            }
        });
    }

    private static List<String> unquoted(String text, BitSet quoted) {
        List<String> rest = new ArrayList<>();
        for (int start = quoted.nextClearBit(0); start < text.length();) {
            int end = quoted.nextSetBit(start);
            end = end < 0 ? text.length() : end;
            String words = text.substring(start, end);
            if (words.matches(".*[A-Za-z0-9].*")) {
                rest.add(words.trim());
            }
            start = quoted.nextClearBit(end);
        }
        return rest;
    }
}
