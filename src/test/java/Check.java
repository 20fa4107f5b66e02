import java.nio.charset.StandardCharsets;
import java.util.function.IntUnaryOperator;

/** Collects answers that are not as due, and puts texts on a tape. */
final class Check {
    private final String title;
    private int asked = 0;
    private int wrong = 0;

    Check(String title) {
        this.title = title;
    }

    void due(String what, long got, long want) {
        asked++;
        if (got != want) {
            wrong++;
            System.out.println(what + " answered " + got + ", due is " + want);
        }
    }

    void isSo(String what, boolean so) {
        due(what, so ? 1 : 0, 1);
    }

    /** Prints how it went; ends with exit code 1 if something was wrong. */
    void close() {
        System.out.println(title + ": " + asked + " asked, " + wrong + " wrong");
        if (wrong != 0) {
            System.exit(1);
        }
    }

    static void put(BrokenBread x, String text) {
        putBytes(x, text.getBytes(StandardCharsets.ISO_8859_1));
    }

    static void putBytes(BrokenBread x, int... bytes) {
        byte[] row = new byte[bytes.length];
        for (int i = 0; i < row.length; i++) {
            row[i] = (byte) bytes[i];
        }
        putBytes(x, row);
    }

    static void putBytes(BrokenBread x, byte[] bytes) {
        int before = x.count(6);
        for (int from = 0; from < bytes.length; from += 20) {
            x.feed(word(bytes, from), word(bytes, from + 4), word(bytes, from + 8), word(bytes, from + 12),
                    word(bytes, from + 16));
        }
        x.end(before + bytes.length);
    }

    static int word(byte[] bytes, int from) {
        int word = 0;
        for (int k = 0; k < 4; k++) {
            word = word << 8 | (from + k < bytes.length ? bytes[from + k] & 255 : 32);
        }
        return word;
    }

    static int law(BrokenBread x, String text) {
        put(x, text);
        return x.law();
    }

    static int orders(BrokenBread x, String text) {
        put(x, text);
        return x.orders();
    }

    /** An upland with FOLK so FED. */
    static BrokenBread upland(int... fed) {
        BrokenBread x = new BrokenBread();
        for (int f : fed) {
            x.folk(f);
        }
        return x;
    }

    /** FOLK so many, FED 5 each, with HARMS of the first to the second of each two. */
    static BrokenBread joined(int folks, int... twos) {
        BrokenBread x = new BrokenBread();
        for (int p = 0; p < folks; p++) {
            x.folk(5);
        }
        for (int two : twos) {
            x.harm(two / 10, two % 10, 1 + two % 3);
        }
        return x;
    }

    /** The answers for 0, 1, 2 and so on. */
    void row(String what, int[] want, IntUnaryOperator got) {
        for (int i = 0; i < want.length; i++) {
            due(what + ", number " + i, got.applyAsInt(i), want[i]);
        }
    }

    static String repeated(String part, int times) {
        return part.repeat(times);
    }
}
