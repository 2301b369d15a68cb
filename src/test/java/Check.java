import java.nio.charset.StandardCharsets;

/** Counts the answers of one test that are not as due, and tells them. */
final class Check {
    private int wrong = 0;

    void due(String call, long got, long want) {
        if (got != want) {
            wrong++;
            System.out.println(call + " answered " + got + ", due is " + want);
        }
    }

    void due(String call, boolean got, boolean want) {
        due(call, got ? 1 : 0, want ? 1 : 0);
    }

    void fail(String what) {
        wrong++;
        System.out.println(what);
    }

    void end() {
        if (wrong != 0) {
            System.out.println(wrong + " answers are not as due");
            System.exit(1);
        }
    }

    /** Feeds a text, 24 bytes a call; tells how many bytes the tape has then. */
    static int feed(TourRooms x, String text) {
        byte[] bytes = text.getBytes(StandardCharsets.ISO_8859_1);
        int has = x.feed(0, 0, 0);
        for (int from = 0; from < bytes.length; from += 24) {
            has = x.feed(word(bytes, from), word(bytes, from + 8), word(bytes, from + 16));
        }
        return has;
    }

    static int read(TourRooms x, int town, String text) {
        feed(x, text);
        return x.read(town);
    }

    private static long word(byte[] bytes, int from) {
        long word = 0;
        for (int k = from; k < from + 8; k++) {
            word = word << 8 | (k < bytes.length ? bytes[k] & 255 : 0);
        }
        return word;
    }
}
