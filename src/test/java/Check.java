import java.io.IOException;
import java.nio.charset.StandardCharsets;
import java.nio.file.Files;
import java.nio.file.Path;

/** What the tests share: tapes, and counting the answers that are not the ones due. */
final class Check {
    private static final Path DOCUMENT = Path.of("../shared/DOC.md");
    private int wrong = 0;
    private int asked = 0;
    private String sentence = "";
    private String document = null;

    /** The sentence of the document by which the next answers are due. */
    void by(String words) {
        sentence = "";
        due("the document does not say '" + words + "':", document().contains(words) || document.isEmpty(), true);
        sentence = "'" + words + "': ";
    }

    /** With one blank for any; empty where it is not at hand. */
    private String document() {
        if (document == null) {
            try {
                document = Files.exists(DOCUMENT) ? Files.readString(DOCUMENT).replaceAll("\\s+", " ") : "";
            } catch (IOException e) {
                document = "";
            }
        }
        return document;
    }

    void due(String call, long got, long want) {
        asked++;
        if (got != want) {
            wrong++;
            System.out.println(sentence + call + " answered " + got + ", due is " + want);
        }
    }

    void due(String call, String got, String want) {
        asked++;
        if (!got.equals(want)) {
            wrong++;
            System.out.println(sentence + call + "\n  answered " + got + "\n  due is   " + want);
        }
    }

    void due(String call, boolean got, boolean want) {
        due(call, got ? 1L : 0L, want ? 1L : 0L);
    }

    void finish() {
        System.out.println(asked + " answers, " + wrong + " not as due");
        if (wrong != 0 || asked == 0) {
            System.exit(1);
        }
    }

    /** Puts these bytes, and nothing else, on an empty tape. */
    static void tape(WrongCook x, byte[] bytes) {
        for (int k = 0; k < bytes.length; k += 20) {
            int[] numbers = new int[5];
            for (int i = 0; i < 20; i++) {
                int octet = k + i < bytes.length ? bytes[k + i] & 255 : 32;
                numbers[i / 4] = numbers[i / 4] << 8 | octet;
            }
            x.feed(numbers[0], numbers[1], numbers[2], numbers[3], numbers[4]);
        }
        x.end(bytes.length);
    }

    static void tape(WrongCook x, String text) {
        tape(x, text.getBytes(StandardCharsets.ISO_8859_1));
    }

    static void row(WrongCook x, int... octets) {
        byte[] bytes = new byte[octets.length];
        for (int k = 0; k < octets.length; k++) {
            bytes[k] = (byte) octets[k];
        }
        tape(x, bytes);
    }

    static WrongCook opened(String text) {
        WrongCook x = new WrongCook();
        open(x, text);
        return x;
    }

    static int open(WrongCook x, String text) {
        tape(x, text);
        return x.open();
    }

    static long ask(WrongCook x, String text) {
        tape(x, text);
        return x.ask();
    }

    static int judge(WrongCook x, int... holders) {
        row(x, holders);
        return x.judge();
    }

    static int ring(WrongCook x, int... holders) {
        row(x, holders);
        return x.ring();
    }

    static int note(WrongCook x, int... octets) {
        row(x, octets);
        return x.note();
    }

    static boolean resume(WrongCook x, int... octets) {
        row(x, octets);
        return x.resume();
    }

    static int[] image(WrongCook x) {
        int[] octets = new int[x.image()];
        for (int k = 0; k < octets.length; k++) {
            octets[k] = x.octet(k);
        }
        return octets;
    }
}
