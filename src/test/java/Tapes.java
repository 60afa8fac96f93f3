/** Feeds texts, eight bytes a call. */
final class Tapes {
    private Tapes() {
    }

    /** What the last feed() answered. */
    static int feed(SkyLights lights, String text) {
        int answer = 0;
        for (int i = 0; i < text.length(); i += 8) {
            String part = text.substring(i, Math.min(text.length(), i + 8));
            answer = lights.feed(word(part), part.length());
        }
        return answer;
    }

    /** The number of the figure, or what figure() answers else. */
    static int figure(SkyLights lights, String text) {
        feed(lights, text);
        return lights.figure();
    }

    static long word(String bytes) {
        long word = 0;
        for (int i = 0; i < bytes.length(); i++) {
            word = word << 8 | bytes.charAt(i);
        }
        return word;
    }
}
