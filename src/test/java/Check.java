import java.nio.charset.StandardCharsets;
import java.util.NoSuchElementException;

/** What the project's tests share: telling what is due, and putting a text on the tape. */
final class Check {
    private int wrong = 0;
    private int asked = 0;
    private String part = "";

    void part(String name) {
        part = name;
    }

    void due(String call, long got, long want) {
        asked++;
        if (got != want) {
            wrong++;
            System.out.println(part + ": " + call + " answered " + got + ", due is " + want);
        }
    }

    void due(String call, boolean got, boolean want) {
        due(call, got ? 1 : 0, want ? 1 : 0);
    }

    /** Ends the program, with exit code 1 if an answer was not as due. */
    void end() {
        System.out.println(asked + " answers asked, " + wrong + " not as due");
        if (wrong != 0) {
            System.exit(1);
        }
    }

    static final int OUT_OF_BOUNDS = -1001;
    static final int NO_SUCH = -1002;

    static int rope(RopeWalk x, int rope, int what) {
        try {
            return x.rope(rope, what);
        } catch (IndexOutOfBoundsException e) {
            return OUT_OF_BOUNDS;
        } catch (NoSuchElementException e) {
            return NO_SUCH;
        }
    }

    /** Feeds a text, filled up with blanks to twenties, and reads just its own length. */
    static int tell(RopeWalk x, String text) {
        byte[] bytes = text.getBytes(StandardCharsets.ISO_8859_1);
        for (int at = 0; at < bytes.length; at += 20) {
            int answer = x.feed(four(bytes, at), four(bytes, at + 4), four(bytes, at + 8), four(bytes, at + 12),
                    four(bytes, at + 16));
            if (answer < 0) {
                throw new IllegalStateException("the text is too long: " + text);
            }
        }
        return x.text(bytes.length);
    }

    static RopeWalk told(String text) {
        RopeWalk x = new RopeWalk();
        int lines = tell(x, text);
        if (lines < 0) {
            throw new IllegalStateException("fault " + x.fault(0) + " at " + x.fault(1) + ": " + text);
        }
        return x;
    }

    static int letters(String name) {
        int packed = 0;
        for (int i = 0; i < 6; i++) {
            packed = packed * 32 + (i < name.length() ? name.charAt(i) - 'a' + 1 : 0);
        }
        return packed;
    }

    private static int four(byte[] bytes, int at) {
        int packed = 0;
        for (int i = at; i < at + 4; i++) {
            packed = packed << 8 | (i < bytes.length ? bytes[i] & 255 : 32);
        }
        return packed;
    }
}
