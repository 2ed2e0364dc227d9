import java.io.IOException;
import java.nio.file.Files;
import java.nio.file.Path;
import java.util.Map;
import java.util.TreeMap;
import java.util.function.Supplier;
import java.util.function.ToLongFunction;

/**
 * Tests that belong to sentences of the document. Each names the part of "Terms" or the promise and quotes the words
 * that would be broken. A quote must stand in that part of the document, and when a test class is through, each word of
 * its parts must have been quoted: so no sentence is left without a test of its own.
 */
final class Sentences {
    interface WithNumber {
        long ask(HousingSociety x, int n);
    }

    private final Checks checks = new Checks();
    private final String document;
    /** By places, their words; those that were quoted are blanked. */
    private final Map<String, StringBuilder> unquoted = new TreeMap<>();
    private String at = "";

    /** The second of a test's arguments is the document's path; where there is none, quotes can't be looked up. */
    Sentences(String[] args) throws IOException {
        Path path = Path.of(args[1]);
        document = Files.isReadable(path) ? Files.readString(path).replaceAll("\\s+", " ") : "";
        if (document.isEmpty()) {
            System.out.println("no document at " + path + ": its sentences are not looked up");
        }
    }

    void test(String place, String words, Runnable test) {
        at = place + ", \"" + words + "\": ";
        quote(place, words);
        int before = checks.done();
        test.run();
        due("a test asks something", checks.done() > before ? 1 : 0, 1);
    }

    void due(String call, long got, long want) {
        checks.due(at + call, got, want);
    }

    /** The answers of calls with 0, 1, .. */
    void row(String call, HousingSociety x, WithNumber asked, long... want) {
        for (int n = 0; n < want.length; n++) {
            due(call + ", " + n, asked.ask(x, n), want[n]);
        }
    }

    /** A call that is refused: its answer is due, and the object is then as one that was made alike and not called. */
    void refused(String call, Supplier<HousingSociety> maker, ToLongFunction<HousingSociety> asked, long want) {
        HousingSociety x = maker.get();
        due(call, asked.applyAsLong(x), want);
        checks.same(at + "what there is behind " + call, Probe.depths(x), Probe.depths(maker.get()));
    }

    /** The first and the last number that are allowed are not refused; what is below or above is, and changes nothing. */
    void range(String call, Supplier<HousingSociety> maker, int first, int last, WithNumber asked, long refusal) {
        for (int n : new int[] {Integer.MIN_VALUE, first - 1, last + 1, Integer.MAX_VALUE}) {
            refused(call + " with " + n, maker, x -> asked.ask(x, n), refusal);
        }
        for (int n : new int[] {first, last}) {
            due(call + " with " + n + " is refused", asked.ask(maker.get(), n) == refusal ? 1 : 0, 0);
        }
    }

    /** Ends the test class: the places are those of which it must have quoted all. */
    void finish(String name, String... places) {
        at = "";
        for (String place : document.isEmpty() ? new String[0] : places) {
            String left = wordsOf(place).toString().replaceAll("[ .;:,]+", " ").strip();
            checks.same("the words of " + place + " without a test", left, "");
        }
        checks.finish(name);
    }

    private void quote(String place, String words) {
        if (document.isEmpty()) {
            return;
        }
        StringBuilder all = wordsOf(place);
        String whole = sectionOf(place);
        int found = whole.indexOf(words);
        checks.due(at + "it is quoted from the document", found >= 0 ? 1 : 0, 1);
        for (int from = found; from >= 0; from = whole.indexOf(words, from + 1)) {
            for (int i = 0; i < words.length(); i++) {
                all.setCharAt(from + i, ' ');
            }
        }
    }

    private StringBuilder wordsOf(String place) {
        return unquoted.computeIfAbsent(place, p -> new StringBuilder(sectionOf(p)));
    }

    private String sectionOf(String place) {
        if (place.equals("What it is")) {
            return between("## " + place + " ", " ## ");
        }
        int number = Integer.parseInt(place.replaceAll("\\D", ""));
        if (place.startsWith("Promise")) {
            // Behind the call that stands ahead of its words.
            String section = between("## " + place + ":", " ## ");
            return section.substring(section.indexOf("`: ") + 3);
        }
        String section = number == 0 ? between("## Terms ", "==== 1")
            : between("==== " + number + " ", number < 5 ? "==== " + (number + 1) : "Ahead of the calls");
        return section.replace("```text", "").replace("```", "");
    }

    private String between(String from, String to) {
        int start = document.indexOf(from);
        int end = start < 0 ? -1 : document.indexOf(to, start + from.length());
        if (end < 0) {
            throw new IllegalStateException("the document has no " + from);
        }
        return document.substring(start + from.length(), end);
    }
}
