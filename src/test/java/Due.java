import java.io.IOException;
import java.nio.charset.StandardCharsets;
import java.nio.file.Files;
import java.nio.file.Path;
import java.util.Set;
import java.util.TreeSet;

/** Counts the answers that are not as due, and feeds TEXTS. */
final class Due {
    private static final Path DOCUMENT = Path.of(System.getProperty("document", "../shared/DOC.md"));
    private static int wrong = 0;
    private static int asked = 0;
    private static final Set<String> SENTENCES = new TreeSet<>();
    private static String sentence = "";
    private static String document;

    private Due() {
    }

    /** What follows tests this sentence, which stands in the document as it is quoted here; if it doesn't any more, that is told. */
    static void sentence(String quoted) {
        sentence = quoted;
        SENTENCES.add(quoted);
        if (document == null) {
            document = inOneLine(read(DOCUMENT));
        }
        if (!document.isEmpty() && !document.contains(inOneLine(quoted))) {
            System.out.println("to be looked at: the document doesn't say: " + quoted);
        }
    }

    private static String read(Path file) {
        try {
            return new String(Files.readAllBytes(file), StandardCharsets.UTF_8);
        } catch (IOException gone) {
            System.out.println(file + " can't be read, so the quotes are not looked up");
            return "";
        }
    }

    private static String inOneLine(String text) {
        return text.replaceAll("\\s+", " ").trim();
    }

    static void is(String call, long got, long due) {
        asked++;
        if (got != due) {
            wrong++;
            System.out.println(call + " answered " + got + ", due is " + due + behind());
        }
    }

    static void so(String call, boolean got, boolean due) {
        is(call, got ? 1 : 0, due ? 1 : 0);
    }

    static void same(String what, String got, String due) {
        asked++;
        if (!got.equals(due)) {
            wrong++;
            System.out.println(what + " was [" + got + "], due is [" + due + "]" + behind());
        }
    }

    private static String behind() {
        return sentence.isEmpty() ? "" : " (" + sentence + ")";
    }

    /** Behind what is on the tape come the text's bytes alone. */
    static void feed(NoonOnABarrow x, String text) {
        int had = x.about(9);
        if (had + text.length() > 300) {
            throw new IllegalArgumentException("the tape can't hold " + text);
        }
        for (int at = 0; at < text.length(); at += 20) {
            int[] five = new int[5];
            for (int i = 0; i < 20; i++) {
                five[i / 4] = five[i / 4] << 8 | (at + i < text.length() ? text.charAt(at + i) : 32);
            }
            x.feed(five[0], five[1], five[2], five[3], five[4]);
        }
        x.end(had + text.length());
    }

    static int text(NoonOnABarrow x, String text) {
        feed(x, text);
        return x.text();
    }

    /** A new object that has read the text, which rules. */
    static NoonOnABarrow ruled(String text) {
        NoonOnABarrow x = new NoonOnABarrow();
        is("text() of " + text, text(x, text), 0);
        so("by(0)", x.by(0), true);
        return x;
    }

    static void faulty(String text, int fault, int place) {
        NoonOnABarrow x = new NoonOnABarrow();
        is("text() of " + text, text(x, text), -1);
        is("fault(0) of " + text, x.fault(0), fault);
        is("fault(1) of " + text, x.fault(1), place);
        is("about(4) behind " + text, x.about(4), 0);
        is("about(9) behind " + text, x.about(9), 0);
    }

    static void fine(String text) {
        NoonOnABarrow x = new NoonOnABarrow();
        is("text() of " + text, text(x, text), 0);
        is("fault(0) of " + text, x.fault(0), 0);
        is("fault(1) of " + text, x.fault(1), -1);
    }

    static void close() {
        String told = SENTENCES.size() > 0 ? SENTENCES.size() + " sentences, " : "";
        System.out.println(told + asked + " answers, " + wrong + " of them not as due");
        if (wrong != 0 || asked == 0) {
            System.exit(1);
        }
    }
}
