import java.io.IOException;
import java.nio.file.Files;
import java.nio.file.Path;
import java.util.Arrays;

/** A part of the document. Each test names the words that it stands for; at the end each word is to be named. */
final class Part {
    private static final String DOCUMENT = document();

    private final String text;
    private final boolean[] isNamed;

    private Part(String text) {
        this.text = text;
        this.isNamed = new boolean[text.length()];
    }

    /** Without the document (a checkout that has the tests alone) the tests run, but nobody looks at their words. */
    private static String document() {
        Path path = Path.of("../shared/DOC.md");
        if (!Files.exists(path)) {
            System.out.println("no " + path + ": the words that the tests name are not looked at");
            return "";
        }
        try {
            return Files.readString(path).replaceAll("```[a-z]*", " ").replaceAll("\\s+", " ");
        } catch (IOException e) {
            throw new IllegalStateException(e);
        }
    }

    /** From some words (the first ones of the part) to others (no more of the part). */
    static Part between(String from, String to) {
        int start = DOCUMENT.indexOf(from);
        int end = DOCUMENT.indexOf(to, start + 1);
        if (DOCUMENT.isEmpty()) {
            return new Part("");
        }
        Due.is("the document has a part from '" + from + "' to '" + to + "'", start >= 0 && end > start, true);
        return new Part(start >= 0 && end > start ? DOCUMENT.substring(start, end) : "");
    }

    /** From some words to the document's end. */
    static Part from(String words) {
        int start = DOCUMENT.indexOf(words);
        Due.is("the document has a part from '" + words + "'", DOCUMENT.isEmpty() || start >= 0, true);
        return new Part(start >= 0 ? DOCUMENT.substring(start) : "");
    }

    /** Behind a promise's heading stands the call that it is about. */
    static Part promise(int number) {
        String to = number == 22 ? "## Not promised" : "## Promise " + (number + 1) + ":";
        Part part = between("## Promise " + number + ":", to);
        int start = part.text.indexOf('`') + 1;
        int end = part.text.indexOf("`:");
        if (start > 0 && end > start) {
            String call = part.text.substring(start, end);
            Due.is("the class has the call " + call, Face.has(call), true);
            part.skip(part.text.substring(0, end));
        }
        return part;
    }

    /** How many headings of the document begin with these words. */
    static int headings(String words) {
        int found = 0;
        for (int at = DOCUMENT.indexOf(words); at >= 0; at = DOCUMENT.indexOf(words, at + 1)) {
            found++;
        }
        return found;
    }

    static boolean isThereADocument() {
        return !DOCUMENT.isEmpty();
    }

    /** These words promise nothing that a test could look at. */
    Part skip(String words) {
        if (text.isEmpty()) {
            return this;
        }
        int at = text.indexOf(words);
        Due.is("the document says '" + words + "'", at >= 0, true);
        for (; at >= 0; at = text.indexOf(words, at + 1)) {
            Arrays.fill(isNamed, at, at + words.length(), true);
        }
        return this;
    }

    /** A test of its own for these words. */
    Part holds(String words, Runnable test) {
        skip(words);
        int before = Due.asked();
        Due.under(words);
        try {
            test.run();
        } catch (RuntimeException e) {
            Due.is("no call throws, but " + e + " at " + e.getStackTrace()[0], false, true);
        }
        Due.is("the test asks something", Due.asked() > before, true);
        Due.under("");
        return this;
    }

    /** Words of the part that no test has named are wrong. */
    void end() {
        StringBuilder left = new StringBuilder();
        for (int at = 0; at < text.length(); at++) {
            boolean isLeft = !isNamed[at] && Character.isLetterOrDigit(text.charAt(at));
            left.append(isLeft ? text.charAt(at) : left.toString().endsWith(" ") ? "" : " ");
        }
        Due.is("words without a test: " + left.toString().strip(), left.toString().isBlank(), true);
    }
}
