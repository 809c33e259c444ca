/** Feeds a text to an object's tape. */
final class Tape {
    private Tape() {
    }

    static int told(OneDraught x, String text) {
        lay(x, text);
        return x.text();
    }

    static void lay(OneDraught x, String text) {
        for (int at = 0; at < text.length(); at += 12) {
            int left = Math.min(12, text.length() - at);
            if (x.feed(four(text, at), four(text, at + 4), four(text, at + 8)) == OneDraught.FULL) {
                throw new IllegalStateException("the tape is full: " + text);
            }
            if (left < 12) {
                x.trim(at + left);
            }
        }
    }

    private static int four(String text, int at) {
        int four = 0;
        for (int i = at; i < at + 4; i++) {
            four = four << 8 | (i < text.length() ? text.charAt(i) & 255 : 32);
        }
        return four;
    }
}
