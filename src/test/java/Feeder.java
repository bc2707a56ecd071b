/** Puts texts on the TAPE of an object, twenty bytes at a time. */
final class Feeder {
    private Feeder() {
    }

    /** Feeds a text of characters 0 to 255, filled up with noughts; its length. */
    static int feed(LotBeliefs x, String text) {
        for (int i = 0; i < text.length(); i += 20) {
            int[] n = new int[5];
            for (int j = 0; j < 20; j++) {
                int c = i + j < text.length() ? text.charAt(i + j) & 255 : 0;
                n[j / 4] = n[j / 4] << 8 | c;
            }
            x.feed(n[0], n[1], n[2], n[3], n[4]);
        }
        return text.length();
    }

    static int jar(LotBeliefs x, String text) {
        return x.jar(feed(x, text));
    }

    static int question(LotBeliefs x, String text) {
        return x.question(feed(x, text));
    }

    static int tongue(LotBeliefs x, String text) {
        return x.tongue(feed(x, text));
    }
}
