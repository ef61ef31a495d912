/** Puts texts on THE TAPE of an object, eight bytes a call. */
final class Tapes {
    private Tapes() {
    }

    static void feed(SampleLayers x, String text) {
        for (int at = 0; at < text.length(); at += 8) {
            int n = Math.min(8, text.length() - at);
            x.feed(packed(text.substring(at, at + n)), n);
        }
    }

    /** The bytes of a text of at most eight signs, the first one lowest. */
    static long packed(String text) {
        long eight = 0;
        for (int i = text.length() - 1; i >= 0; i--) {
            eight = eight << 8 | text.charAt(i);
        }
        return eight;
    }

    static int tell(SampleLayers x, String text) {
        feed(x, text);
        return x.street();
    }
}
