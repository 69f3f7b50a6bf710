import java.io.IOException;
import java.nio.file.Files;
import java.nio.file.Path;

/** Counts the answers that are not as due. */
final class Check {
    private static final Path DOCUMENT = Path.of("../shared/DOC.md");
    private static int wrong = 0;
    private static int done = 0;
    private static String words = "";
    private static String document = null;

    private Check() {
    }

    /** The words of the document that the answers from here on are asked by; a quotation that is not in it is wrong. */
    static void words(String quoted) {
        words = quoted;
        done++;
        if (!document().isEmpty() && !document().contains(quoted)) {
            countWrong();
            System.out.println("these words are not in " + DOCUMENT);
        }
    }

    private static String document() {
        if (document == null) {
            try {
                document = Files.exists(DOCUMENT) ? Files.readString(DOCUMENT).replaceAll("\\s+", " ") : "";
            } catch (IOException unreadable) {
                document = "";
            }
        }
        return document;
    }

    private static void countWrong() {
        wrong++;
        if (!words.isEmpty()) {
            System.out.println("\"" + words + "\"");
        }
    }

    static void due(String call, long got, long want) {
        done++;
        if (got != want) {
            countWrong();
            System.out.println(call + " answered " + got + ", due is " + want);
        }
    }

    static void due(String call, String got, String want) {
        done++;
        if (!got.equals(want)) {
            countWrong();
            System.out.println(call + " answered\n  " + got + "\n due is\n  " + want);
        }
    }

    static boolean hasFailed() {
        return wrong > 0;
    }

    static void end() {
        System.out.println(wrong == 0 ? "all " + done + " answers are as due" : wrong + " of " + done + " answers are not as due");
        if (wrong > 0) {
            System.exit(1);
        }
    }

    /** All that can be asked of an object. */
    static String whole(SungSlides x) {
        return "states " + x.total(13) + " text " + x.total(14) + "\n" + state(x);
    }

    /** All that can be asked of an object but for its history and its text. */
    static String state(SungSlides x) {
        StringBuilder all = new StringBuilder(" ");
        for (int what = 0; what <= 12; what++) {
            all.append(' ').append(x.total(what));
        }
        for (int i = 0; i < x.total(5); i++) {
            all.append("\n  syllable");
            for (int what = 0; what <= 11; what++) {
                all.append(' ').append(x.syllable(i, what));
            }
        }
        for (int i = 0; i < x.total(6); i++) {
            all.append("\n  phrase");
            for (int what = 0; what <= 4; what++) {
                all.append(' ').append(x.phrase(i, what));
            }
        }
        all.append("\n  sung");
        for (int tick = 0; tick <= 599; tick++) {
            all.append(' ').append(x.sung(tick));
        }
        all.append("\n  wanted");
        for (int tick = 0; tick <= 599; tick++) {
            all.append(' ').append(x.wanted(tick));
        }
        return all.append("\n  best ").append(x.bestShift()).append(" worst ").append(x.worst()).toString();
    }
}
