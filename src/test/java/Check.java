import java.io.IOException;
import java.nio.file.Files;
import java.nio.file.Path;

/** What the tests share: comparing answers, expecting exceptions, telling texts. */
final class Check {
    interface Call {
        long answer();
    }

    private int wrong = 0;
    private int done = 0;
    private String sentence = "";
    private String document = null;

    /** The document's words that the next checks are of: a test of words that it does not have is wrong itself. */
    void of(String words) {
        if (document == null) {
            document = oneLine(readDocument());
        }
        sentence = "[" + words + "] ";
        done++;
        if (!document.contains(oneLine(words))) {
            tellWrong("the document does not have these words");
        }
    }

    private static String readDocument() {
        try {
            return Files.readString(Path.of("../shared/DOC.md"));
        } catch (IOException e) {
            return "";
        }
    }

    private static String oneLine(String text) {
        return text.replaceAll("\\s+", " ");
    }

    private void tellWrong(String what) {
        wrong++;
        System.out.println(sentence + what);
    }

    void due(String what, long got, long want) {
        done++;
        if (got != want) {
            tellWrong(what + " answered " + got + ", due is " + want);
        }
    }

    void due(String what, String got, String want) {
        done++;
        if (!got.equals(want)) {
            tellWrong(what + " is\n  " + got + "\ndue is\n  " + want);
        }
    }

    void due(String what, boolean got, boolean want) {
        due(what, got ? 1 : 0, want ? 1 : 0);
    }

    /** The very class is wanted, so that what the machine throws by itself never passes for it. */
    void fails(String what, Class<? extends RuntimeException> want, Call call) {
        done++;
        String got;
        try {
            got = "answered " + call.answer();
        } catch (RuntimeException e) {
            if (e.getClass() == want) {
                return;
            }
            got = "threw " + e;
        }
        tellWrong(what + " " + got + ", due is " + want.getSimpleName());
    }

    void noBounds(String what, Call call) {
        fails(what, IndexOutOfBoundsException.class, call);
    }

    void noArgument(String what, Call call) {
        fails(what, IllegalArgumentException.class, call);
    }

    void noState(String what, Call call) {
        fails(what, IllegalStateException.class, call);
    }

    void noElement(String what, Call call) {
        fails(what, java.util.NoSuchElementException.class, call);
    }

    void end() {
        System.out.println(done + " checks, " + wrong + " wrong");
        if (wrong != 0) {
            System.exit(1);
        }
    }

    /** Puts the text on the TAPE, which is empty ahead of it. */
    static void tape(StoneBacks x, String text) {
        byte[] bytes = new byte[(text.length() + 19) / 20 * 20];
        for (int i = 0; i < text.length(); i++) {
            bytes[i] = (byte) text.charAt(i);
        }
        for (int i = 0; i < bytes.length; i += 20) {
            x.feed(number(bytes, i), number(bytes, i + 4), number(bytes, i + 8), number(bytes, i + 12),
                    number(bytes, i + 16));
        }
        x.end(text.length());
    }

    static int number(byte[] bytes, int i) {
        return (bytes[i] & 255) << 24 | (bytes[i + 1] & 255) << 16 | (bytes[i + 2] & 255) << 8 | bytes[i + 3] & 255;
    }

    static int valley(StoneBacks x, String text) {
        tape(x, text);
        return x.valley();
    }

    static int law(StoneBacks x, String text) {
        tape(x, text);
        return x.law();
    }

    static StoneBacks told(String text) {
        StoneBacks x = new StoneBacks();
        valley(x, text);
        return x;
    }

    /** Rows for the scales: three numbers each. */
    static void rows(StoneBacks x, int... rows) {
        StringBuilder text = new StringBuilder();
        for (int b : rows) {
            text.append((char) b);
        }
        tape(x, text.toString());
    }
}
