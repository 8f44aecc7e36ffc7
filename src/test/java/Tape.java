import java.nio.charset.StandardCharsets;

/** Puts texts on the tape of a NightHours, twenty bytes a call. */
final class Tape {
    private Tape() {
    }

    /** All of the text and nothing else comes behind the tape, which was empty; one byte a sign. */
    static void put(NightHours n, String text) {
        byte[] bytes = text.getBytes(StandardCharsets.ISO_8859_1);
        for (int from = 0; from < bytes.length; from += 20) {
            int[] v = twenty(bytes, from);
            n.feed(v[0], v[1], v[2], v[3], v[4]);
        }
        n.back((20 - bytes.length % 20) % 20);
    }

    /** The arguments of feed for the bytes from there on; behind the last one come blanks. */
    static int[] twenty(byte[] bytes, int from) {
        int[] v = new int[5];
        for (int i = 0; i < 20; i++) {
            v[i / 4] = v[i / 4] << 8 | (from + i < bytes.length ? bytes[from + i] & 255 : 32);
        }
        return v;
    }

    static int read(NightHours n, String text) {
        put(n, text);
        return n.read();
    }
}
