import java.nio.charset.StandardCharsets;

/** What the tests share: due answers that are counted, and texts and bytes brought onto the tape. */
final class Check {
    private static int wrong = 0;
    private static int asked = 0;
    private static int askedAhead = 0;
    private static String test = "";

    private Check() {
    }

    /** The test that begins now: its name is told with each answer that is not due. */
    static void begin(String name) {
        test = name.isEmpty() ? "" : name + ": ";
        askedAhead = asked;
    }

    static int askedInTest() {
        return asked - askedAhead;
    }

    static void due(String what, long got, long want) {
        asked++;
        if (got != want) {
            wrong++;
            if (wrong <= 50) {
                System.out.println(test + what + " answered " + got + ", due is " + want);
            }
        }
    }

    static void due(String what, boolean got, boolean want) {
        due(what, got ? 1 : 0, want ? 1 : 0);
    }

    /** Brings the bytes onto an empty tape. */
    static void tape(DistantVoice x, int... bytes) {
        int[] words = new int[5];
        for (int from = 0; from < bytes.length; from += 20) {
            for (int i = 0; i < 5; i++) {
                words[i] = 0;
                for (int j = 0; j < 4; j++) {
                    int at = from + 4 * i + j;
                    words[i] = words[i] << 8 | (at < bytes.length ? bytes[at] & 255 : 0);
                }
            }
            due("feed", x.feed(words[0], words[1], words[2], words[3], words[4]), from + 20);
        }
        due("end", x.end(bytes.length), true);
    }

    static int[] bytes(String text) {
        byte[] raw = text.getBytes(StandardCharsets.ISO_8859_1);
        int[] bytes = new int[raw.length];
        for (int i = 0; i < raw.length; i++) {
            bytes[i] = raw[i] & 255;
        }
        return bytes;
    }

    static int house(DistantVoice x, String text) {
        tape(x, bytes(text));
        return x.house();
    }

    /** A new object with that house. */
    static DistantVoice made(String text) {
        DistantVoice x = new DistantVoice();
        due("house of " + text, house(x, text) > 0, true);
        return x;
    }

    /** An image of these numbers, with its last byte. */
    static int[] image(int night, int mile, int rounds, int talking, int hush, int... rowsAndTalks) {
        int[] image = new int[9 + rowsAndTalks.length];
        int[] head = {night >> 8, night & 255, mile >> 8, mile & 255, rounds >> 8, rounds & 255, talking, hush};
        System.arraycopy(head, 0, image, 0, 8);
        System.arraycopy(rowsAndTalks, 0, image, 8, rowsAndTalks.length);
        int c = 239;
        for (int i = 0; i < image.length - 1; i++) {
            c = (5 * c + image[i]) % 251;
        }
        image[image.length - 1] = c;
        return image;
    }

    static boolean on(DistantVoice x, int... image) {
        tape(x, image);
        return x.on();
    }

    static int mark(DistantVoice x, int... rows) {
        tape(x, rows);
        return x.mark();
    }

    static void finish() {
        System.out.println(wrong == 0 ? asked + " answers are as due" : wrong + " of " + asked + " are not as due");
        if (wrong != 0 || asked == 0) {
            System.exit(1);
        }
    }
}
