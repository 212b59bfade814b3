import java.io.IOException;
import java.io.UncheckedIOException;
import java.nio.file.Files;
import java.nio.file.Path;
import java.util.ArrayList;
import java.util.LinkedHashMap;
import java.util.List;
import java.util.Map;
import java.util.regex.Matcher;
import java.util.regex.Pattern;

/**
 * The sentences of the document. A test names the sentence that it is for; a sentence that no test names, a sentence
 * that is named and not checked, and one that the document does not have are told at the end.
 */
final class Document {
    private static final Path FILE = Path.of("../shared/DOC.md");

    /** What one test named, and how many checks there had been before it. */
    private record Quote(String place, String text, int before) {
    }

    private static final Map<String, List<String>> sentences = new LinkedHashMap<>();
    private static final List<Quote> quotes = new ArrayList<>();
    private static final List<Quote> open = new ArrayList<>();

    private Document() {
    }

    static void promise(int number, String... texts) {
        closeQuotes();
        Check.promise(number);
        openQuotes("promise " + number, texts);
    }

    static void section(int number, String... texts) {
        closeQuotes();
        Check.section(number);
        openQuotes("section " + number, texts);
    }

    private static void openQuotes(String place, String[] texts) {
        for (String text : texts) {
            open.add(new Quote(place, text, Check.done()));
        }
    }

    private static void closeQuotes() {
        for (Quote quote : open) {
            if (quote.before == Check.done()) {
                Check.report("named and not checked: " + quote.text);
            }
        }
        quotes.addAll(open);
        open.clear();
    }

    static void end() {
        closeQuotes();
        if (!Files.isReadable(FILE)) {
            System.out.println("the document is not here: its sentences were not compared");
            return;
        }
        read();
        for (Quote quote : quotes) {
            if (find(quote).isEmpty()) {
                Check.report(quote.place + " does not say: " + quote.text);
            }
        }
        int count = 0;
        for (String place : sentences.keySet()) {
            for (String sentence : sentences.get(place)) {
                count++;
                if (quotes.stream().noneMatch(q -> q.place.equals(place) && fits(q.text, sentence))) {
                    Check.report("no test names a sentence of " + place + ": " + sentence);
                }
            }
        }
        System.out.println(count + " sentences of the document were looked for, " + quotes.size() + " were named");
    }

    private static List<String> find(Quote quote) {
        List<String> all = sentences.getOrDefault(quote.place, List.of());
        return all.stream().filter(sentence -> fits(quote.text, sentence)).toList();
    }

    private static boolean fits(String quote, String sentence) {
        return sentence.contains(quote);
    }

    private static void read() {
        String text;
        try {
            text = Files.readString(FILE);
        } catch (IOException e) {
            throw new UncheckedIOException(e);
        }
        String description = text.substring(text.indexOf("\n## Description"), text.indexOf("\nThe constants:"));
        Matcher section = Pattern.compile("(?ms)^(\\d)\\. [^.]*\\. (.*?)(?=^\\d\\. |\\z)").matcher(description);
        while (section.find()) {
            split("section " + section.group(1), section.group(2), "(?<=[.;]) ");
        }
        Matcher promise = Pattern.compile("(?ms)^## Promise (\\d+): [^\n]*\n(.*?)(?=^## )").matcher(text);
        while (promise.find()) {
            split("promise " + promise.group(1), promise.group(2), "(?<=[.;]) |,(?=[A-Z]\\w+Exception)");
        }
    }

    private static void split(String place, String text, String border) {
        List<String> found = sentences.computeIfAbsent(place, k -> new ArrayList<>());
        for (String line : text.split("\n")) {
            for (String each : line.strip().split(border)) {
                if (!isNoSentence(each)) {
                    found.add(each);
                }
            }
        }
    }

    /** Signatures, titles, and arguments of which the sentence on the exception says the rest. */
    private static boolean isNoSentence(String text) {
        return text.isEmpty() || text.startsWith("`") || text.startsWith("----") || text.equals("Script text.")
                || text.matches("- `\\w+`: (number of a .*|the new \\w+|0 (for|is) the \\w+( one)?)");
    }
}
