import java.util.ArrayList;
import java.util.List;

/** The sentences of the document, each behind the section in which it stands: "Description", or the number of a promise. */
final class Document {
    private Document() {
    }

    static List<String> sentences(String document) {
        List<String> all = new ArrayList<>();
        String section = "";
        for (String line : document.split("\n")) {
            String words = line.trim();
            if (words.startsWith("## ")) {
                section = words.startsWith("## Promise ") ? words.substring(11).split(":")[0] : words.substring(3);
            } else if (isPromised(section) && !words.isEmpty() && !isSignature(words)) {
                for (String sentence : words.split("(?<=\\.|\\.\\))\\s+")) {
                    all.add(section + " " + sentence);
                }
            }
        }
        return all;
    }

    private static boolean isPromised(String section) {
        return section.equals("Description") || section.matches("\\d+");
    }

    private static boolean isSignature(String words) {
        return words.startsWith("`");
    }
}
