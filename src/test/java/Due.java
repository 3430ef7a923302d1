import java.nio.charset.StandardCharsets;

/** What the tests share: comparing answers with those that are due, and putting texts on the tape. */
final class Due {
    private static int wrong = 0;
    private static int asked = 0;

    private Due() {
    }

    static void is(String what, long want, long got) {
        asked++;
        if (want != got) {
            wrong++;
            System.out.println(what + " answered " + got + ", due is " + want);
        }
    }

    static void yes(String what, boolean got) {
        is(what, 1, got ? 1 : 0);
    }

    static void no(String what, boolean got) {
        is(what, 0, got ? 1 : 0);
    }

    static void finish() {
        System.out.println(wrong == 0 ? asked + " answers are as due" : wrong + " answers are not as due");
        if (wrong != 0) {
            System.exit(1);
        }
    }

    /** The five numbers that feed the 20 bytes from a place of the text on, zeros behind its end. */
    static int[] numbers(byte[] text, int from) {
        int[] five = new int[5];
        for (int i = 0; i < 20; i++) {
            int at = from + i;
            int b = at < text.length ? text[at] & 255 : 0;
            five[i / 4] = five[i / 4] << 8 | b;
        }
        return five;
    }

    static byte[] bytes(String text) {
        return text.getBytes(StandardCharsets.ISO_8859_1);
    }

    /** Makes the tape be this text. */
    static void put(TreesLendRings x, String text) {
        byte[] bytes = bytes(text);
        x.end(0);
        for (int from = 0; from < bytes.length; from += 20) {
            int[] n = numbers(bytes, from);
            x.feed(n[0], n[1], n[2], n[3], n[4]);
        }
        x.end(bytes.length);
    }

    /** The number of the text, told by feed, end and text. */
    static int tell(TreesLendRings x, String text) {
        put(x, text);
        return x.text();
    }
}
