/** Promises 16 (best), 17 (strokes), 18 (needs), 19 (closest), 20 (mean) and 21 (digest). */
public final class WouldBeTest {
    private static final Probe PROBE = new Probe();

    public static void main(String[] args) {
        bestKey();
        strokesOfWords();
        strokesWithBoosts();
        strokesWithinTheLimit();
        neededWeights();
        neededWeightsAtTheEdges();
        closestWords();
        meanWeights();
        digests();
        PROBE.end();
    }

    private static void bestKey() {
        WordPad pad = PROBE.taught("word car weight 5; word cat weight 6; word dog weight 11; word do weight 0;"
                + "word c1 weight 50; word x1 weight 0; word e weight 10;");
        PROBE.due("best", pad.best(), 'c');
        Probe.type(pad, "c");
        PROBE.due("best behind c", pad.best(), 'a');
        Probe.type(pad, "a");
        PROBE.due("best behind ca", pad.best(), 't');
        Probe.type(pad, "t");
        PROBE.due("best behind cat", pad.best(), -1);
        pad.take(0);
        Probe.type(pad, "d");
        PROBE.due("best behind d", pad.best(), 'o');
        pad.back();
        Probe.type(pad, "x");
        PROBE.due("best behind x", pad.best(), -1);
        Probe.type(pad, "yzxyzxyzxyzxyzxyzxy");
        PROBE.due("best behind 20 letters", pad.best(), -1);
        WordPad ties = PROBE.taught("word zz weight 3; word bb weight 1; word ba weight 2; word ac weight 0;");
        PROBE.due("best of a tie", ties.best(), 'b');
        PROBE.due("best is z", PROBE.taught("word zz weight 3; word yy weight 2;").best(), 'z');
        WordPad zero = PROBE.taught("word zz weight 0; word yy weight 0;");
        PROBE.due("best without weights", zero.best(), 'y');
    }

    private static void strokesOfWords() {
        WordPad pad = PROBE.taught("word a weight 9; word ab weight 8; word abc weight 7; word abcd weight 6;"
                + "word abcde weight 5; word abcdef weight 4; word abcdeg weight 3; word x1y weight 0;");
        Probe.type(pad, "qq");
        pad.setLimit(0);
        int[] strokes = {1, 1, 1, 1, 1, 3, 4, 2};
        long before = pad.digest();
        for (int word = 0; word < strokes.length; word++) {
            PROBE.due("strokes(" + word + ")", pad.strokes(word), strokes[word]);
        }
        PROBE.due("digest behind strokes", pad.digest(), before);
        int[] none = {-1, strokes.length, Integer.MIN_VALUE, Integer.MAX_VALUE};
        for (int word : none) {
            PROBE.refuses("strokes(" + word + ")", pad, IndexOutOfBoundsException.class, () -> pad.strokes(word));
        }
    }

    private static void strokesWithBoosts() {
        String heavy = "word aa weight 100; word aab weight 100; word aac weight 100; word aad weight 100;"
                + "word aae weight 100;";
        WordPad never = PROBE.taught(heavy + "tag t; word a weight 0 of t; word ab1 weight 0 of t;"
                + "word a1 weight 0; boost t by 500 when typed = 2 and far = 0;");
        never.setLimit(9);
        PROBE.due("offered behind none of its bytes", never.strokes(5), 2);
        PROBE.due("offered ahead of its digit", never.strokes(6), 3);
        PROBE.due("a digit would have to be typed", never.strokes(7), -1);
        PROBE.due("the others", never.strokes(0), 1);
        WordPad taken = PROBE.taught(heavy + "tag t; word b weight 0 of t; boost t by 500 when last b and taken = 1;");
        taken.setLimit(9);
        PROBE.due("ahead of taking it", taken.strokes(5), 2);
        Probe.say(taken, "b");
        Probe.type(taken, "aa");
        PROBE.due("behind taking it", taken.strokes(5), 1);
    }

    /** Other words that are near by slips are ahead of it, as far as the limit goes. */
    private static void strokesWithinTheLimit() {
        WordPad pad = PROBE.taught("word xa weight 100; word xb weight 100; word xc weight 100; word xd weight 100;"
                + "word xe weight 100; word bad weight 0;");
        int[] strokes = {4, 4, 4, 2, 2, 2, 2, 2, 2, 2};
        int[] limits = {9, 8, 6, 2, 0, 1, 2, 1, 0, 2};
        for (int i = 0; i < limits.length; i++) {
            pad.setLimit(limits[i]);
            PROBE.due("strokes with the limit " + limits[i], pad.strokes(5), strokes[i]);
        }
    }

    private static void neededWeights() {
        WordPad pad = PROBE.taught("tag t; word abc weight 30 of t; word ab weight 20; word abd weight 10;"
                + "word x weight 500; boost t by weight abc * 2 when typed = 2;");
        pad.setLimit(2);
        Probe.type(pad, "ab");
        PROBE.due("score", pad.word(0, 4), 90);
        long before = pad.digest();
        PROBE.due("needs of the one that leads", pad.needs(0), 0);
        PROBE.due("needs of a shorter one", pad.needs(1), 90);
        PROBE.due("needs of one as long behind it", pad.needs(2), 91);
        PROBE.due("needs of one that is not near", pad.needs(3), -1);
        PROBE.due("digest behind needs", pad.digest(), before);
        int[] none = {-1, 4, Integer.MIN_VALUE, Integer.MAX_VALUE};
        for (int word : none) {
            PROBE.refuses("needs(" + word + ")", pad, IndexOutOfBoundsException.class, () -> pad.needs(word));
        }
        pad.take(0);
        Probe.type(pad, "x");
        PROBE.due("needs of the only near one", pad.needs(3), 0);
    }

    private static void neededWeightsAtTheEdges() {
        WordPad heavy = PROBE.taught("word a weight 9999; word b weight 9999; word cc weight 0;");
        PROBE.due("just as heavy", heavy.needs(0), 9999);
        PROBE.due("more than the greatest weight", heavy.needs(1), -1);
        PROBE.due("longer", heavy.needs(2), -1);
        WordPad boosted = PROBE.taught("tag t; word a weight 0 of t; word b weight 5; boost t by 9995 when 1=1;");
        PROBE.due("boosted", boosted.needs(1), 9996);
        PROBE.due("less than no weight", boosted.needs(0), 0);
        // No score is greater than the greatest one, and one more wraps around.
        String most = "65536*32768-1";
        WordPad full = PROBE.taught("tag t; tag u; word a weight 0 of t; word b weight 0 of u; boost t by " + most
                + " when 1=1; boost u by " + most + "-5 when 1=1;");
        PROBE.due("the greatest score", full.word(0, 4), Integer.MAX_VALUE);
        PROBE.due("needs more than the greatest score", full.needs(1), -1);
        WordPad turned = PROBE.taught("tag t; tag u; word a weight 0 of u; word b weight 0 of t; boost t by " + most
                + " when 1=1; boost u by " + most + "-5 when 1=1;");
        PROBE.due("needs just the greatest score", turned.needs(0), 5);
        WordPad wrapped = PROBE.taught("tag t; word a weight 9000 of t; word b weight 1; boost t by " + most
                + "-5000 when 1=1;");
        PROBE.holds("a score that has wrapped", wrapped.word(0, 4) < 0);
        PROBE.due("needs less ahead of the wrap", wrapped.needs(0), 0);
    }

    private static void closestWords() {
        WordPad pad = PROBE.taught("keys qwe, as1; word aw weight 3; word ae1 weight 2; word e1 weight 9;"
                + "word pppppppppp weight 0; word aw1x weight 0;");
        Probe.type(pad, "ppp");
        long before = pad.digest();
        int[] closest = {0, 2, 3, 30, 5};
        for (int word = 0; word < closest.length; word++) {
            PROBE.due("closest(" + word + ")", pad.closest(word), closest[word]);
        }
        PROBE.due("digest behind closest", pad.digest(), before);
        int[] none = {-1, 5, Integer.MIN_VALUE, Integer.MAX_VALUE};
        for (int word : none) {
            PROBE.refuses("closest(" + word + ")", pad, IndexOutOfBoundsException.class, () -> pad.closest(word));
        }
        WordPad first = PROBE.taught("word abcd weight 1; word abcx weight 1; word abcdef weight 1;");
        PROBE.due("closest is 0 ahead of others", first.closest(0), 0);
        PROBE.due("closest is the first one", first.closest(1), 3);
        PROBE.due("closest is the first one", first.closest(2), 6);
        WordPad zeroFirst = PROBE.taught("word ab weight 1; word a weight 1; word xyz weight 1;");
        PROBE.due("closest is 0 and then more", zeroFirst.closest(1), 0);
        PROBE.due("closest of the only word", PROBE.taught("word a weight 1;").closest(0), -1);
    }

    private static void meanWeights() {
        PROBE.dueDouble("mean of one", PROBE.taught("word a weight 7;").mean(), 7.0);
        PROBE.dueDouble("mean of none", PROBE.taught("tag a;").mean(), 0.0);
        WordPad three = PROBE.taught("word a weight 1; word b weight 2; word c weight 2;");
        PROBE.dueDouble("mean of three", three.mean(), 5.0 / 3);
        three.take(0);
        PROBE.dueDouble("mean behind take", three.mean(), 10.0 / 3);
    }

    private static void digests() {
        long d = 773;
        int[] figures = {0, 0, 0, 0, 0, 0, 4, 0, 0, 0, 1, -1, 0, -1, -1, -1, -1, -1};
        for (int figure : figures) {
            d = d * 31 + figure;
        }
        PROBE.due("digest of a new pad", new WordPad().digest(), d);
        WordPad pad = PROBE.taught("keys ab; tag t; word ab weight 8 of t; word b1 weight 2; boost t by 3 when 1=1;");
        Probe.type(pad, "bb");
        Probe.write(pad, "tag");
        int[] told = {2, 1, 1, 1, 2, 0, 4, 10, 2, 0, 5, -1, 3, 'b', 'b',
            8, 0, 2, 2, -9, 0, 'a', 'b', 2, -1, 2, 3, -28, 1, 'b', '1', 0, 1, -1, -1, -1};
        d = 773;
        for (int figure : told) {
            d = d * 31 + figure;
        }
        PROBE.due("digest of a pad", pad.digest(), d);
    }
}
