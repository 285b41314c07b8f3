/** Promises 1 (a new object), 2 (feed), 3 (trim) and 6 (count). */
public final class TapeTest {
    private static final Probe PROBE = new Probe();

    public static void main(String[] args) {
        newObject();
        feedOrder();
        feedIsFull();
        trimEdges();
        countEdges();
        countsOfAPad();
        PROBE.end();
    }

    private static void newObject() {
        WordPad pad = new WordPad();
        int[] figures = {0, 0, 0, 0, 0, 0, 4, 0, 0, 0, 1, -1, 0};
        for (int what = 0; what < figures.length; what++) {
            PROBE.due("count(" + what + ") of a new pad", pad.count(what), figures[what]);
        }
        PROBE.offers("a new pad", pad);
        PROBE.due("errorAt of a new pad", pad.errorAt(), -1);
        PROBE.due("best of a new pad", pad.best(), -1);
        PROBE.dueDouble("mean of a new pad", pad.mean(), 0.0);
        PROBE.holds("no keys in a new pad", !pad.near('a', 'b') && !pad.near('q', 'w'));
        PROBE.refuses("word(0, 0) of a new pad", pad, IndexOutOfBoundsException.class, () -> pad.word(0, 0));
    }

    private static void feedOrder() {
        WordPad pad = new WordPad();
        // "tag " "abcd" " ;ta" "g ab" "cd; "
        PROBE.due("feed", pad.feed(0x74616720, 0x61626364, 0x203b7461, 0x67206162, 0x63643b20), 20);
        PROBE.due("count(12)", pad.count(12), 20);
        PROBE.due("teach", pad.teach(), 2);
        PROBE.due("errorAt", pad.errorAt(), 14);
        PROBE.due("count(12) behind teach", pad.count(12), 0);
        PROBE.due("feed of high bytes", pad.feed(-1, -1, -1, -1, -1), 20);
        PROBE.due("teach of byte 255", pad.teach(), 1);
        PROBE.due("errorAt of byte 255", pad.errorAt(), 0);
    }

    private static void feedIsFull() {
        WordPad pad = new WordPad();
        int blanks = 0x20202020;
        for (int fed = 20; fed <= 2000; fed += 20) {
            PROBE.due("feed", pad.feed(blanks, blanks, blanks, blanks, blanks), fed);
        }
        Runnable feed = () -> pad.feed(blanks, blanks, blanks, blanks, blanks);
        PROBE.refuses("feed at 2000", pad, IllegalStateException.class, feed);
        pad.trim(1981);
        PROBE.refuses("feed at 1981", pad, IllegalStateException.class, feed);
        pad.trim(1980);
        PROBE.due("feed at 1980", pad.feed(blanks, blanks, blanks, blanks, blanks), 2000);
        PROBE.due("teach of blanks", pad.teach(), 0);
        PROBE.due("errorAt of blanks", pad.errorAt(), -1);
    }

    private static void trimEdges() {
        WordPad pad = new WordPad();
        PROBE.due("trim(0) of an empty tape", pad.trim(0), 0);
        PROBE.refuses("trim(1) of an empty tape", pad, IllegalArgumentException.class, () -> pad.trim(1));
        PROBE.refuses("trim(-1)", pad, IllegalArgumentException.class, () -> pad.trim(-1));
        Probe.write(pad, "tag a; tag b; xxxxxx");
        PROBE.refuses("trim(21)", pad, IllegalArgumentException.class, () -> pad.trim(21));
        PROBE.refuses("trim(MIN)", pad, IllegalArgumentException.class, () -> pad.trim(Integer.MIN_VALUE));
        PROBE.due("trim(20)", pad.trim(20), 20);
        PROBE.due("trim(13)", pad.trim(13), 13);
        PROBE.due("count(12)", pad.count(12), 13);
        Probe.write(pad, "tag c;");
        PROBE.due("count(12)", pad.count(12), 19);
        PROBE.due("teach", pad.teach(), 0);
        PROBE.due("tags", pad.count(1), 3);
        Probe.write(pad, "tag");
        PROBE.due("trim(0)", pad.trim(0), 0);
        PROBE.due("count(12)", pad.count(12), 0);
    }

    private static void countEdges() {
        WordPad pad = PROBE.taught("word a weight 1;");
        int[] whats = {-1, 13, Integer.MIN_VALUE, Integer.MAX_VALUE};
        for (int what : whats) {
            PROBE.refuses("count(" + what + ")", pad, IndexOutOfBoundsException.class, () -> pad.count(what));
        }
    }

    private static void countsOfAPad() {
        WordPad pad = PROBE.taught("keys abc, def; tag t; tag u; word abc weight 10; word abd weight 20 of t;"
                + "word ab weight 5; word x1 weight 0; boost t by 1 when typed > 0; boost u by 2 when far = 0;"
                + "boost t by 3 when taken > 1;");
        Probe.write(pad, "keys");
        int[] figures = {4, 2, 2, 3, 0, 0, 4, 35, 4, 4, 7, -1, 4};
        for (int what = 0; what < figures.length; what++) {
            PROBE.due("count(" + what + ")", pad.count(what), figures[what]);
        }
        Probe.type(pad, "ab");
        pad.setLimit(3);
        int[] typed = {4, 2, 2, 3, 2, 0, 3, 35, 3, 3, 7, -1, 4};
        for (int what = 0; what < typed.length; what++) {
            PROBE.due("count(" + what + ") behind ab", pad.count(what), typed[what]);
        }
        Probe.say(pad, "x");
        int[] said = {5, 2, 2, 3, 0, 1, 3, 41, 5, 5, 8, 4, 4};
        for (int what = 0; what < said.length; what++) {
            PROBE.due("count(" + what + ") behind abx", pad.count(what), said[what]);
        }
    }
}
