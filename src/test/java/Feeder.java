/** Brings a text onto the TAPE by feed and end, as a caller of the class has to. */
final class Feeder {
    private Feeder() {
    }

    /** The text's bytes from 20 times i on, as the five numbers of one feed; 0 behind its end. */
    static int[] numbers(String text, int i) {
        int[] five = new int[5];
        for (int j = 0; j < 20; j++) {
            int at = 20 * i + j;
            int sign = at < text.length() ? text.charAt(at) : 0;
            five[j / 4] = (five[j / 4] << 8) | sign;
        }
        return five;
    }

    static void type(PartedPension x, String text) {
        for (int i = 0; 20 * i < text.length(); i++) {
            int[] n = numbers(text, i);
            x.feed(n[0], n[1], n[2], n[3], n[4]);
        }
        x.end(text.length());
    }

    static int tell(PartedPension x, String text) {
        type(x, text);
        return x.tell();
    }
}
