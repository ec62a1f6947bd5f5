import java.nio.charset.StandardCharsets;

/** Brings texts into the input buffer of an object. */
final class Texts {
    private Texts() {
    }

    static UndoJourneys loaded(String text) {
        UndoJourneys x = new UndoJourneys();
        int answer = load(x, text);
        if (answer < 0) {
            throw new IllegalStateException("error " + answer + " at " + x.errorOffset() + " of " + text);
        }
        return x;
    }

    static int load(UndoJourneys x, String text) {
        append(x, text);
        return x.load(text.length());
    }

    /** Appends the text, filled up by spaces to a multiple of 20 bytes. */
    static int append(UndoJourneys x, String text) {
        byte[] bytes = text.getBytes(StandardCharsets.ISO_8859_1);
        int length = 0;
        for (int at = 0; at < bytes.length; at += 20) {
            length = x.append(word(bytes, at), word(bytes, at + 4), word(bytes, at + 8),
                    word(bytes, at + 12), word(bytes, at + 16));
        }
        return length;
    }

    private static int word(byte[] bytes, int at) {
        int word = 0;
        for (int i = at; i < at + 4; i++) {
            word = word << 8 | (i < bytes.length ? bytes[i] & 255 : ' ');
        }
        return word;
    }
}
