/** Promises 12 (offer), 13 (word), 14 (letter) and 15 (near), and the terms behind them. */
public final class OffersTest {
    private static final Probe PROBE = new Probe();

    public static void main(String[] args) {
        offerOrder();
        wordFigures();
        letters();
        neighbours();
        distances();
        boosts();
        sums();
        tests();
        PROBE.end();
    }

    private static void offerOrder() {
        WordPad pad = PROBE.taught("word ccc weight 5; word bb weight 5; word aa weight 5; word d weight 4;"
                + "word e weight 6; word f weight 0; word g weight 0;");
        PROBE.offers("ties", pad, 4, 1, 2, 0, 3);
        int[] places = {3, 1, 2, 4, 0, 5, 6};
        for (int word = 0; word < places.length; word++) {
            PROBE.due("place of " + word, pad.word(word, 5), places[word]);
        }
        int[] noPlaces = {-1, 5, Integer.MIN_VALUE, Integer.MAX_VALUE};
        for (int place : noPlaces) {
            PROBE.refuses("offer(" + place + ")", pad, IndexOutOfBoundsException.class, () -> pad.offer(place));
        }
        Probe.type(pad, "a");
        pad.setLimit(0);
        PROBE.offers("only the near one", pad, 2);
        PROBE.due("place of one that is not near", pad.word(1, 5), -1);
        PROBE.due("near words", pad.count(8), 1);
    }

    private static void wordFigures() {
        WordPad pad = PROBE.taught("tag s; tag t; word abc weight 30 of t; word b1 weight 20; boost t by 7 when 1=1;");
        Probe.type(pad, "x");
        int[][] figures = {{30, 1, 3, 3, 7, 0}, {20, -1, 2, 3, -10, 1}};
        for (int word = 0; word < 2; word++) {
            for (int what = 0; what < 6; what++) {
                PROBE.due("word(" + word + ", " + what + ")", pad.word(word, what), figures[word][what]);
            }
        }
        int[][] wrong = {{-1, 0}, {2, 0}, {0, -1}, {0, 6}, {Integer.MIN_VALUE, 3}, {Integer.MAX_VALUE, 9}};
        for (int[] pair : wrong) {
            PROBE.refuses("word(" + pair[0] + ", " + pair[1] + ")", pad, IndexOutOfBoundsException.class,
                    () -> pad.word(pair[0], pair[1]));
        }
    }

    private static void letters() {
        WordPad pad = PROBE.taught("word a1z weight 3; word bcdefghijk weight 2;");
        PROBE.due("letter(0, 0)", pad.letter(0, 0), 'a');
        PROBE.due("letter(0, 1)", pad.letter(0, 1), '1');
        PROBE.due("letter(0, 2)", pad.letter(0, 2), 'z');
        PROBE.due("letter(1, 9)", pad.letter(1, 9), 'k');
        int[][] wrong = {{0, 3}, {0, -1}, {1, 10}, {2, 0}, {-1, 0}, {Integer.MAX_VALUE, Integer.MIN_VALUE}};
        for (int[] pair : wrong) {
            PROBE.refuses("letter(" + pair[0] + ", " + pair[1] + ")", pad, IndexOutOfBoundsException.class,
                    () -> pad.letter(pair[0], pair[1]));
        }
    }

    private static void neighbours() {
        // abcd / efg / h1jkl / m
        WordPad pad = PROBE.taught("keys abcd, efg; keys h1jkl; keys m;");
        String[] pairs = {"ab", "bc", "cd", "ef", "fg", "h1", "1j", "jk", "kl", "ea", "eb", "fb", "fc", "gc", "gd",
            "he", "hf", "1f", "1g", "jg", "mh", "m1"};
        String keys = "abcdefgh1jklmnz0";
        for (int i = 0; i < keys.length(); i++) {
            for (int j = 0; j < keys.length(); j++) {
                boolean want = false;
                for (String pair : pairs) {
                    want |= pair.charAt(0) == keys.charAt(i) && pair.charAt(1) == keys.charAt(j);
                    want |= pair.charAt(1) == keys.charAt(i) && pair.charAt(0) == keys.charAt(j);
                }
                PROBE.due("near of " + keys.charAt(i) + " " + keys.charAt(j),
                        pad.near(keys.charAt(i), keys.charAt(j)) ? 1 : 0, want ? 1 : 0);
            }
        }
        int[] noBytes = {-1, 'a' + 128, 'a' + 256, 127, 128, Integer.MIN_VALUE, Integer.MAX_VALUE};
        for (int b : noBytes) {
            PROBE.holds("near of " + b, !pad.near(b, 'b') && !pad.near('b', b) && !pad.near(b, b));
        }
    }

    private static void far(WordPad pad, String typed, int... far) {
        Probe.type(pad, typed);
        for (int word = 0; word < far.length; word++) {
            PROBE.due("behind " + typed + " word " + word + " is far", pad.word(word, 3), far[word]);
        }
        for (int i = 0; i < typed.length(); i++) {
            pad.back();
        }
    }

    private static void distances() {
        WordPad pad = PROBE.taught("keys qwerty, asdfgh, z1c; word was weight 1; word a weight 2; word w1 weight 3;");
        far(pad, "", 0, 0, 0);
        far(pad, "w", 0, 2, 0);
        far(pad, "was", 0, 6, 5);
        far(pad, "wass", 3, 9, 8);
        far(pad, "as", 3, 3, 4);
        far(pad, "qad", 4, 6, 7);
        far(pad, "ws", 2, 5, 2);
        far(pad, "wd", 3, 5, 2);
        far(pad, "ppp", 9, 9, 9);
        far(pad, "wz", 2, 5, 2);
        far(pad, "wwwwwwwwwwwwwwwwwwww", 55, 59, 57);
    }

    private static void boosts() {
        WordPad pad = PROBE.taught("tag s; tag t; word a weight 10 of s; word b weight 10 of t; word c weight 10;"
                + "boost s by 5 when typed = 0; boost s by 100 when typed = 1; boost t by -20 when far >= 0;"
                + "boost s by far * 7 when far > 0;");
        PROBE.due("score of a", pad.word(0, 4), 15);
        PROBE.due("score of b", pad.word(1, 4), -10);
        PROBE.due("score of c", pad.word(2, 4), 10);
        Probe.type(pad, "b");
        PROBE.due("score of a behind b", pad.word(0, 4), 10 + 100 + 21 - 30);
        PROBE.due("score of b behind b", pad.word(1, 4), -10);
        PROBE.due("score of c behind b", pad.word(2, 4), -20);
        PROBE.offers("behind b", pad, 0, 1, 2);
    }

    /** Looks what a sum tells for a word of weight 0 that was taken 0 times. */
    private static void sum(String sum, int want) {
        WordPad pad = PROBE.taught("tag t; word w weight 0 of t; word v weight 77; boost t by " + sum + " when 1=1;");
        PROBE.due(sum, pad.word(0, 4), want);
    }

    private static void sums() {
        sum("1+2*3", 7);
        sum("10-2-3", 5);
        sum("100/7/2", 7);
        sum("7/2*2", 6);
        sum("-7/2", -3);
        sum("7/-2", -3);
        sum("(1+2)*3", 9);
        sum("-2*3+10", 4);
        sum("--5", 5);
        sum("-(1+2)", -3);
        sum("5/0", 0);
        sum("-5/(1-1)", 0);
        sum("min(3,-4)+max(3,-4)", -1);
        sum("max(1+1,min(9,8))", 8);
        sum("weight v-weight w", 77);
        sum("limit*10+typed+taken+far", 40);
        sum("999999*999999", 999999 * 999999);
        sum("65536*65536+1", 1);
        sum("65536*32768", Integer.MIN_VALUE);
        sum("-(65536*32768)", Integer.MIN_VALUE);
        sum("65536*32768/-1", Integer.MIN_VALUE);
        sum("65536*32768/(1-2)+1", Integer.MIN_VALUE + 1);
        sum("65536*32768-1", Integer.MAX_VALUE);
        sum("65536*-32768", Integer.MIN_VALUE);
        sum("min(65536*32768,0)/2", -1073741824);
        sum("000012", 12);
        WordPad pad = PROBE.taught("tag t; word w weight 1 of t; boost t by 65536*32768-1 when 1=1;"
                + "boost t by 10*taken when taken > 0;");
        PROBE.due("a score that wraps", pad.word(0, 4), Integer.MIN_VALUE);
    }

    /** Looks whether a test holds when ax is typed, and the word old was taken once. */
    private static void test(String test, boolean want) {
        WordPad pad = PROBE.taught("tag t; word w weight 0 of t; word old weight 3; boost t by 1000 when " + test + ";");
        Probe.say(pad, "old");
        Probe.type(pad, "ax");
        PROBE.due(test, pad.word(0, 4), (want ? 1000 : 0) - 60);
    }

    private static void tests() {
        test("1<2", true);
        test("2<2", false);
        test("3>2", true);
        test("2>2", false);
        test("2=2", true);
        test("2=3", false);
        test("2<=2", true);
        test("3<=2", false);
        test("2>=2", true);
        test("2>=3", false);
        test("65536*32768<0", true);
        test("last old", true);
        test("last w", false);
        test("begins a", true);
        test("begins ax", true);
        test("begins axe", false);
        test("begins x", false);
        test("begins a1", false);
        test("typed=2", true);
        test("taken=1", true);
        test("limit=4", true);
        test("far=6", true);
        test("weight old=8", true);
        test("not 1=2", true);
        test("not not 1=2", false);
        test("1=1 or 1=1 and 1=2", true);
        test("[1=1 or 1=1] and 1=2", false);
        test("1=2 and 1=1 or 1=1", true);
        test("not 1=1 or 1=1", true);
        test("not [1=1 or 1=1]", false);
        test("not 1=1 and 1=2", false);
        test("not 1=2 and 1=1", true);
        test("1=2 or 1=2 or begins a", true);
        test("1=1 and 1=1 and last w", false);
    }
}
