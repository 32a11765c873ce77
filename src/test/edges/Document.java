import java.io.IOException;
import java.io.UncheckedIOException;
import java.nio.file.Files;
import java.nio.file.Path;
import java.util.ArrayList;
import java.util.LinkedHashMap;
import java.util.List;
import java.util.Map;
import java.util.regex.Matcher;
import java.util.regex.Pattern;

/** The document's sections, and which of their words the tests have quoted so far. */
final class Document {
    private static final Map<String, String> SECTIONS = read(Path.of("../shared/DOC.md"));
    private static final Map<String, boolean[]> QUOTED = new LinkedHashMap<>();

    private Document() {
    }

    private static Map<String, String> read(Path path) {
        String all;
        try {
            all = Files.readString(path);
        } catch (IOException e) {
            throw new UncheckedIOException(e);
        }
        Map<String, String> sections = new LinkedHashMap<>();
        Matcher heading = Pattern.compile("(?m)^## (Promise \\d+|.*?)(?:: .*)?$").matcher(all);
        String name = null;
        int start = 0;
        while (heading.find()) {
            if (name != null) {
                sections.put(name, plain(all.substring(start, heading.start())));
            }
            name = heading.group(1);
            start = heading.end();
        }
        sections.put(name, plain(all.substring(start)));
        // LanguageTest compares the face; what is not promised can't be tested.
        sections.remove("The public face");
        sections.remove("Not promised");
        return sections;
    }

    /** Without headings in capitals, without the signature of a method, and with single blanks. */
    private static String plain(String text) {
        return text.replaceAll("(?m)^[A-Z ]+$", "").replaceAll("\\s+", " ").trim()
            .replaceFirst("^`[\\w ]*\\([^`]*`: ", "");
    }

    static int sections() {
        return SECTIONS.size();
    }

    /** Tells whether the section says this. */
    static boolean quote(String section, String words) {
        String text = SECTIONS.getOrDefault(section, "");
        boolean[] quoted = QUOTED.computeIfAbsent(section, s -> new boolean[text.length()]);
        int found = text.indexOf(words);
        if (found < 0) {
            return false;
        }
        for (int i = found; i < found + words.length(); i++) {
            quoted[i] = true;
        }
        return true;
    }

    /** What no test has quoted, but for signs that are neither letters nor digits. */
    static List<String> unquoted() {
        List<String> rests = new ArrayList<>();
        SECTIONS.forEach((section, text) -> {
            boolean[] quoted = QUOTED.getOrDefault(section, new boolean[text.length()]);
            StringBuilder rest = new StringBuilder();
            for (int i = 0; i < text.length(); i++) {
                rest.append(quoted[i] ? '\n' : text.charAt(i));
            }
            for (String piece : rest.toString().split("\n+")) {
                if (piece.matches(".*\\w.*")) {
                    rests.add(section + ": " + piece.trim());
                }
            }
        });
        return rests;
    }
}
