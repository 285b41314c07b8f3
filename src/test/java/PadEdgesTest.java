/**
 * "Terms" and "2. The pad", sentence by sentence, at their edges: how numbers wrap around, keys,
 * how far words are, scores, offers and what taking a word does.
 */
public final class PadEdgesTest {
    private static final Probe PROBE = new Probe();
    private static final String LEAST = "(65536*32768)";
    private static final String MOST = "(65536*32768-1)";
    private static final String QWERTY = "keys qwertyuiop,asdfghjkl,zxcvbnm;";

    public static void main(String[] args) {
        sumsWrapAround();
        quotients();
        scoresWrapAround();
        valuesOfSums();
        comparisons();
        bothSidesAreReckoned();
        tightness();
        lastAndBegins();
        neighboursInARow();
        neighboursInTheRowAhead();
        whatLettersCost();
        leastCostOfSeveralWays();
        emptyAndWholeBeginnings();
        farthestWord();
        limits();
        boostsOfTheTagAlone();
        tiesOfOffers();
        firstFive();
        takingAWord();
        theEighthTime();
        refusedCallsChangeNothing();
        exceptionNamedFirst();
        PROBE.end();
    }

    // ---- sums and tests

    /** The score of a word of weight 0 that is 0 far is just what its boost tells. */
    private static void sum(String sum, int want) {
        WordPad pad = PROBE.taught("tag t;word w weight 0 of t;boost t by " + sum + " when 1=1;");
        PROBE.due(sum, pad.word(0, 4), want);
    }

    private static void sumsWrapAround() {
        sum(MOST, Integer.MAX_VALUE);
        sum(LEAST, Integer.MIN_VALUE);
        sum(MOST + "+0", Integer.MAX_VALUE);
        sum(MOST + "+1", Integer.MIN_VALUE);
        sum(LEAST + "-0", Integer.MIN_VALUE);
        sum(LEAST + "-1", Integer.MAX_VALUE);
        sum(LEAST + "+" + LEAST, 0);
        sum("-" + LEAST, Integer.MIN_VALUE);
        sum("-" + MOST, -Integer.MAX_VALUE);
        sum("0-" + LEAST, Integer.MIN_VALUE);
        sum("65535*65537", -1);
        sum("65536*65536", 0);
        sum("46340*46340", 2147395600);
        sum("46341*46341", -2147479015);
        sum(LEAST + "*-1", Integer.MIN_VALUE);
        sum(MOST + "*" + MOST, 1);
        sum("999999*999999*999999", 999999 * 999999 * 999999);
        sum("min(" + MOST + "," + LEAST + ")", Integer.MIN_VALUE);
        sum("max(" + MOST + "," + LEAST + ")", Integer.MAX_VALUE);
        sum("max(" + MOST + "+1,0)", 0);
    }

    private static void quotients() {
        sum("7/2", 3);
        sum("-7/2", -3);
        sum("7/-2", -3);
        sum("-7/-2", 3);
        sum("1/2", 0);
        sum("-1/2", 0);
        sum("8/8", 1);
        sum("7/8", 0);
        sum("0/5", 0);
        sum("5/0", 0);
        sum("0/0", 0);
        sum("-5/0", 0);
        sum("9+5/(3-3)*4", 9);
        sum(LEAST + "/0", 0);
        sum(MOST + "/0", 0);
        sum(LEAST + "/-1", Integer.MIN_VALUE);
        sum(LEAST + "/1", Integer.MIN_VALUE);
        sum(MOST + "/-1", -Integer.MAX_VALUE);
        sum(LEAST + "/-2", 1073741824);
        sum(LEAST + "/" + LEAST, 1);
        sum(MOST + "/" + LEAST, 0);
        sum("1/" + LEAST, 0);
    }

    /** A weight, boosts, and 10 times how far the word is: added, each may wrap the score around. */
    private static void scoresWrapAround() {
        String start = "tag t;word w weight 1 of t;boost t by ";
        WordPad pad = PROBE.taught(start + MOST + "-1 when 1=1;");
        PROBE.due("the greatest score", pad.word(0, 4), Integer.MAX_VALUE);
        PROBE.due("the weight wraps", PROBE.taught(start + MOST + " when 1=1;").word(0, 4), Integer.MIN_VALUE);
        WordPad two = PROBE.taught(start + MOST + " when 1=1;boost t by 5 when 1=1;boost t by -6 when typed=0;");
        PROBE.due("boosts that wrap there and back", two.word(0, 4), Integer.MAX_VALUE + 1 + 5 - 6);
        WordPad far = PROBE.taught(start + LEAST + "+28 when 1=1;");
        far.type('x');
        PROBE.due("how far it is wraps", far.word(0, 4), Integer.MAX_VALUE);
        far.back();
        far.type('w');
        PROBE.due("not far", far.word(0, 4), Integer.MIN_VALUE + 29);
        // The one whose score has wrapped around stands behind the other one.
        WordPad order = PROBE.taught("tag t;word a weight 1 of t;word b weight 0;boost t by " + MOST + " when 1=1;");
        PROBE.offers("a score that has wrapped", order, 1, 0);
    }

    private static void valuesOfSums() {
        WordPad pad = PROBE.taught("tag t;word w weight 0 of t;word v weight 70;"
                + "boost t by typed+100*taken+10000*limit+100000*far+999999*weight v when 1=1;");
        PROBE.due("at first", pad.word(0, 4), 40000 + 999999 * 70);
        Probe.say(pad, "v");
        pad.setLimit(9);
        Probe.type(pad, "xx");
        PROBE.due("then", pad.word(0, 4), 2 + 100 + 90000 + 600000 + 999999 * 75 - 60);
        pad.setLimit(0);
        Probe.type(pad, "x".repeat(18));
        PROBE.due("with 20 letters", pad.word(0, 4), 20 + 100 + 100000 * 60 + 999999 * 75 - 600);
        WordPad own = PROBE.taught("tag t;word w weight 3 of t;boost t by weight w when weight w<8;");
        PROBE.due("its own weight", own.word(0, 4), 6);
        own.take(0);
        PROBE.due("its own weight is 8", own.word(0, 4), 8);
    }

    /** Looks whether a test holds for a word that is 3 far, behind one letter, none being taken. */
    private static void test(String test, boolean want) {
        WordPad pad = PROBE.taught("tag t;word w weight 30 of t;word v weight 2;boost t by 7 when " + test + ";");
        pad.type('x');
        PROBE.due(test, pad.word(0, 4), want ? 7 : 0);
    }

    private static void comparisons() {
        String[] signs = {"<", "<=", "=", ">=", ">"};
        int[][] sides = {{1, 2}, {2, 2}, {2, 1}};
        boolean[][] want = {{true, true, false, false, false}, {false, true, true, true, false},
            {false, false, false, true, true}};
        for (int i = 0; i < sides.length; i++) {
            for (int s = 0; s < signs.length; s++) {
                test(sides[i][0] + signs[s] + sides[i][1], want[i][s]);
                test("-" + sides[i][1] + signs[s] + "-" + sides[i][0], want[i][s]);
            }
        }
        test(LEAST + "<" + MOST, true);
        test(LEAST + ">" + MOST, false);
        test(MOST + "+1<" + MOST, true);
        test("typed=1 and taken=0 and limit=4 and far=3 and weight v=2", true);
    }

    private static void bothSidesAreReckoned() {
        test("1=1 or 1/0=1", true);
        test("1=2 and 1/0=1", false);
        test("1/0=0 or 1=2", true);
        test("1/0=0 and 1/0=0", true);
    }

    private static void tightness() {
        test("1=1 or 1=1 and 1=2", true);
        test("1=2 and 1=1 or 1=1", true);
        test("[1=1 or 1=1] and 1=2", false);
        test("not 1=1 or 1=1", true);
        test("not [1=1 or 1=1]", false);
        test("not 1=1 and 1=2", false);
        test("not [1=1 and 1=2]", true);
        test("not not 1=1", true);
        test("not not not 1=1", false);
        test("1=2 or 1=2 or 1=2", false);
        test("1=2 or 1=2 or 1=1", true);
        test("1=1 and 1=1 and 1=2", false);
        sum("2+3*4", 14);
        sum("2*3+4", 10);
        sum("10-4-3", 3);
        sum("100/10/5", 2);
        sum("100/10*5", 50);
        sum("-2*3", -6);
        sum("-2-3", -5);
        sum("2--3", 5);
        sum("-(2-3)", 1);
        sum("(2+3)*4", 20);
        sum("min(2,3)*4-max(2,3)", 5);
    }

    private static void lastAndBegins() {
        WordPad pad = PROBE.taught("tag t;word ab weight 0 of t;word cd weight 0;word abcdefghij weight 0;"
                + "boost t by 100 when last ab;boost t by 1000 when begins ab;boost t by 10000 when begins abcdefghij;"
                + "boost t by 100000 when begins ab1;");
        PROBE.due("none was taken", pad.word(0, 4), 0);
        pad.type('a');
        PROBE.due("a part of the bytes", pad.word(0, 4), 0);
        pad.type('b');
        PROBE.due("just the bytes", pad.word(0, 4), 1000);
        PROBE.due("taken", pad.say(), 0);
        PROBE.due("the latest", pad.word(0, 4), 105);
        Probe.type(pad, "abcdefghi");
        PROBE.due("nine of ten", pad.word(0, 4), 1105 - 210);
        Probe.type(pad, "j");
        PROBE.due("ten of ten", pad.word(0, 4), 11105 - 240);
        Probe.type(pad, "j");
        PROBE.due("more than ten", pad.word(0, 4), 11105 - 270);
        for (int i = 0; i < 11; i++) {
            pad.back();
        }
        PROBE.due("another one is said", Probe.say(pad, "cd"), 1);
        PROBE.due("not the latest any more", pad.word(0, 4), 5);
        Probe.type(pad, "xab");
        PROBE.due("not from the first letter on", pad.word(0, 4), 5 - 30);
    }

    // ---- keys

    private static void near(WordPad pad, String keys, String pairs) {
        for (int i = 0; i < keys.length(); i++) {
            for (int j = 0; j < keys.length(); j++) {
                char a = keys.charAt(i);
                char b = keys.charAt(j);
                boolean want = (" " + pairs + " ").contains(" " + a + b + " ")
                        || (" " + pairs + " ").contains(" " + b + a + " ");
                PROBE.due("near of " + a + " and " + b, pad.near(a, b) ? 1 : 0, want ? 1 : 0);
            }
        }
    }

    private static void neighboursInARow() {
        near(PROBE.taught("keys abcdefghij;"), "abcdefghijk", "ab bc cd de ef fg gh hi ij");
        near(PROBE.taught("keys a;"), "ab1", "");
        near(PROBE.taught("keys a1;"), "ab12", "a1");
        near(PROBE.taught("keys z9a0;"), "az09", "z9 9a a0");
        near(new WordPad(), "abqw1", "");
    }

    private static void neighboursInTheRowAhead() {
        near(PROBE.taught("keys abc,def;"), "abcdef", "ab bc de ef da db eb ec fc");
        near(PROBE.taught("keys abc;keys def;"), "abcdef", "ab bc de ef da db eb ec fc");
        // A row ahead that is shorter, or longer; two rows ahead are none.
        near(PROBE.taught("keys a,bcd;"), "abcd", "bc cd ba");
        near(PROBE.taught("keys abcd,e;"), "abcde", "ab bc cd ea eb");
        near(PROBE.taught("keys ab,c,de;"), "abcde", "ab ca cb dc de");
        near(PROBE.taught("keys a,b,c,d;"), "abcd", "ba cb dc");
        near(PROBE.taught("keys ab,cd,ef,gh;"), "abcdefgh", "ab cd ef gh ca cb db ec ed fd ge gf hf");
        near(PROBE.taught("keys abcdefghij,klmnopqrst;"), "ijrst", "ij rs st ri si sj tj");
    }

    // ---- how far a word is

    private static void far(WordPad pad, String typed, int... far) {
        Probe.type(pad, typed);
        for (int word = 0; word < far.length; word++) {
            PROBE.due("behind " + typed + " word " + word + " is far", pad.word(word, 3), far[word]);
        }
        for (int i = 0; i < typed.length(); i++) {
            pad.back();
        }
    }

    private static void whatLettersCost() {
        WordPad pad = PROBE.taught(QWERTY + "word was weight 0;");
        far(pad, "was", 0);
        far(pad, "wad", 2);
        far(pad, "qas", 2);
        far(pad, "wws", 2);
        far(pad, "wps", 5);
        far(pad, "wasp", 3);
        far(pad, "waas", 3);
        far(pad, "pwas", 3);
        far(pad, "as", 3);
        far(pad, "ws", 2);
        // No letter is taken for another one that is not its neighbour: left out, and put in.
        far(pad, "wpsp", 8);
        far(pad, "pppp", 12);
        // Without keys no letter has a neighbour.
        far(PROBE.taught("word was weight 0;"), "wad", 3);
        far(PROBE.taught("word was weight 0;"), "qas", 6);
        far(PROBE.taught("keys asd;word a1 weight 0;"), "as", 3);
        far(PROBE.taught("keys a1s;word a1 weight 0;"), "as", 2);
    }

    private static void leastCostOfSeveralWays() {
        WordPad pad = PROBE.taught("keys ab;word aaaa weight 0;word abab weight 0;word ba weight 0;");
        far(pad, "b", 2, 2, 0);
        far(pad, "bbbb", 8, 4, 8);
        far(pad, "baba", 4, 3, 6);
        far(pad, "aaaaa", 3, 7, 9 + 2);
        far(pad, "ab", 2, 0, 3);
        WordPad long10 = PROBE.taught("keys ab;word abcdefghij weight 0;");
        far(long10, "abcdefghij", 0);
        far(long10, "bcdefghij", 3);
        far(long10, "cdefghij", 6);
        far(long10, "defghij", 9);
        far(long10, "bacdefghij", 4);
        far(long10, "bbcdefghijx", 5);
        // Letters put in behind the first one that is typed, and behind others.
        far(long10, "acdefghij", 3);
        far(long10, "abdefghij", 3);
        far(long10, "abcdefghj", 3);
        far(long10, "abefghij", 6);
        far(long10, "acdfghij", 6);
        far(long10, "afghij", 12);
        far(long10, "acdxefghij", 6);
    }

    private static void emptyAndWholeBeginnings() {
        WordPad pad = PROBE.taught("word abc weight 0;");
        far(pad, "", 0);
        far(pad, "a", 0);
        far(pad, "ab", 0);
        far(pad, "abc", 0);
        far(pad, "abcd", 3);
        far(pad, "x", 3);
        far(pad, "xy", 6);
        far(pad, "c", 3);
        far(pad, "bc", 3);
    }

    private static void farthestWord() {
        WordPad pad = PROBE.taught(QWERTY + "word q weight 0;word qwertyuiop weight 0;word a000000000 weight 0;");
        far(pad, "mmmmmmmmmmmmmmmmmmmm", 60, 60, 60);
        far(pad, "wertyuiopppppppppppp", 59, 36, 59);
        far(pad, "qwertyuiopqwertyuiop", 57, 30, 59);
        far(pad, "qqqqqqqqqqqqqqqqqqqq", 57, 56, 59);
    }

    private static void limits() {
        WordPad pad = PROBE.taught("keys xy;word x weight 0;");
        PROBE.due("the limit is 4 at first", pad.count(6), 4);
        // What is typed, and how far it is: near with this limit, not with one less.
        String[] typed = {"x", "y", "xz", "yx", "yzz", "zz", "zzz"};
        int[] far = {0, 2, 3, 3, 8, 6, 9};
        for (int i = 0; i < typed.length; i++) {
            Probe.type(pad, typed[i]);
            PROBE.due(typed[i] + " is far", pad.word(0, 3), far[i]);
            pad.setLimit(far[i]);
            PROBE.due(typed[i] + " is near", pad.count(8), 1);
            PROBE.due(typed[i] + " has a place", pad.word(0, 5), 0);
            PROBE.offers(typed[i], pad, 0);
            if (far[i] > 0) {
                pad.setLimit(far[i] - 1);
                PROBE.due(typed[i] + " is not near", pad.count(8), 0);
                PROBE.due(typed[i] + " has no place", pad.word(0, 5), -1);
                PROBE.offers(typed[i], pad);
            }
            for (int k = 0; k < typed[i].length(); k++) {
                pad.back();
            }
        }
        pad.setLimit(9);
        Probe.type(pad, "yzzz");
        PROBE.due("11 is far", pad.word(0, 3), 11);
        PROBE.due("11 is not near", pad.count(8), 0);
    }

    // ---- scores and offers

    private static void boostsOfTheTagAlone() {
        WordPad pad = PROBE.taught("tag s;tag t;word a weight 1 of s;word b weight 2 of t;word c weight 3;"
                + "boost s by 10 when 1=1;boost s by 20 when 1=2;boost s by 40 when 2=2;boost t by -5 when 1=1;");
        PROBE.due("two boosts that hold", pad.word(0, 4), 51);
        PROBE.due("a boost below 0", pad.word(1, 4), -3);
        PROBE.due("no tag", pad.word(2, 4), 3);
        PROBE.due("a word that is taught", Probe.say(pad, "d"), 3);
        PROBE.due("has no boost", pad.word(3, 4), 6);
        StringBuilder list = new StringBuilder("tag t;word w weight 0 of t;");
        for (int i = 0; i < 12; i++) {
            list.append("boost t by ").append(1 << i).append(" when 1=1;");
        }
        PROBE.due("twelve boosts", PROBE.taught(list.toString()).word(0, 4), 4095);
    }

    private static void tiesOfOffers() {
        PROBE.offers("the greater score first", PROBE.taught("word a weight 1;word bb weight 2;"), 1, 0);
        PROBE.offers("then the shorter one", PROBE.taught("word aa weight 1;word b weight 1;"), 1, 0);
        PROBE.offers("then the smaller number", PROBE.taught("word bb weight 1;word aa weight 1;"), 0, 1);
        PROBE.offers("a score of one more", PROBE.taught("word aa weight 2;word b weight 1;"), 0, 1);
        PROBE.offers("scores below 0", PROBE.taught("tag t;word a weight 0 of t;word b weight 0 of t;word c weight 1"
                + " of t;boost t by -9 when 1=1;"), 2, 0, 1);
        PROBE.offers("of the same length", PROBE.taught("word b1 weight 5;word a weight 5;word c2 weight 5;"
                + "word abcdefghij weight 5;word d weight 5;"), 1, 4, 0, 2, 3);
    }

    private static void firstFive() {
        PROBE.offers("no words", new WordPad());
        StringBuilder list = new StringBuilder();
        for (int words = 1; words <= 7; words++) {
            list.append("word ").append((char) ('a' + words)).append(" weight ").append(10 - words).append(";");
            WordPad pad = PROBE.taught(list.toString());
            for (int place = 0; place < 5; place++) {
                PROBE.due("place " + place + " of " + words, pad.offer(place), place < words ? place : -1);
            }
            PROBE.due("place of the last one", pad.word(words - 1, 5), words - 1);
            PROBE.due("near words", pad.count(8), words);
        }
        StringBuilder forty = new StringBuilder();
        for (int word = 0; word < 40; word++) {
            forty.append("word w").append(word).append(" weight ").append(word < 10 ? 10 + word : word).append(";");
        }
        WordPad full = PROBE.taught(forty.toString());
        PROBE.offers("forty words", full, 39, 38, 37, 36, 35);
        PROBE.due("the last place", full.word(10, 5), 39);
        PROBE.due("as heavy, but shorter", full.word(0, 5), 38);
    }

    // ---- taking a word

    private static void takingAWord() {
        int[][] weights = {{0, 5}, {1, 6}, {9993, 9998}, {9994, 9999}, {9995, 9999}, {9998, 9999}, {9999, 9999}};
        for (int[] pair : weights) {
            WordPad pad = PROBE.taught("word a weight " + pair[0] + ";word b weight 0;");
            Probe.type(pad, "a");
            PROBE.due("take", pad.take(0), 0);
            PROBE.due("weight " + pair[0] + " and 5 more", pad.word(0, 0), pair[1]);
            PROBE.due("of the other one", pad.word(1, 0), 0);
            PROBE.figures("taken", pad, 2, 0, 0, 0, 0, 1, 4, pair[1], 2, 2, 3, 0, 0);
            PROBE.refusesState("back behind take", pad, pad::back);
            PROBE.due("say", Probe.say(pad, "a"), 0);
            PROBE.due("weight when said", pad.word(0, 0), Math.min(9999, pair[1] + 5));
        }
    }

    private static void theEighthTime() {
        WordPad pad = PROBE.taught("word a weight 9999;word b weight 0;word c weight 7;word d weight 8;"
                + "word e weight 15;word f weight 16;word g1 weight 9998;");
        int[] weights = {9999, 0, 7, 8, 15, 16, 9998};
        for (int taken = 1; taken <= 24; taken++) {
            Probe.say(pad, "b");
            weights[1] += 5;
            for (int word = 0; word < weights.length && taken % 8 == 0; word++) {
                weights[word] -= weights[word] / 8;
            }
            for (int word = 0; word < weights.length; word++) {
                PROBE.due("weight of " + word + " behind " + taken, pad.word(word, 0), weights[word]);
            }
        }
        PROBE.due("taken", pad.count(5), 24);
        // The one that is taken the eighth time is cut to 9999 first.
        WordPad heavy = PROBE.taught("word a weight 9999;");
        for (int i = 0; i < 8; i++) {
            heavy.take(0);
        }
        PROBE.due("the heaviest one fades", heavy.word(0, 0), 9999 - 1249);
        // A new list starts to count anew.
        for (int i = 0; i < 7; i++) {
            heavy.take(0);
        }
        PROBE.teach(heavy, "word a weight 80;", 0, -1);
        for (int i = 0; i < 7; i++) {
            heavy.take(0);
        }
        PROBE.due("behind 7", heavy.word(0, 0), 115);
        heavy.take(0);
        PROBE.due("behind 8", heavy.word(0, 0), 105);
    }

    // ---- exceptions

    /** All calls that throw, in one state; Probe looks that each one changes nothing. */
    private static void refusedCallsChangeNothing() {
        WordPad pad = PROBE.taught("keys ab;tag t;word ab weight 3 of t;word ba1 weight 4;boost t by 2 when typed>1;");
        Probe.say(pad, "ab");
        Probe.type(pad, "abababababab");
        Probe.write(pad, "tag x;");
        PROBE.refusesArgument("trim(7)", pad, () -> pad.trim(7));
        PROBE.refusesIndex("count(13)", pad, () -> pad.count(13));
        PROBE.refusesArgument("type(0)", pad, () -> pad.type(0));
        PROBE.refusesIndex("take(5)", pad, () -> pad.take(5));
        PROBE.refusesState("take(0)", pad, () -> pad.take(0));
        PROBE.refusesState("say", pad, pad::say);
        PROBE.refusesArgument("setLimit(10)", pad, () -> pad.setLimit(10));
        PROBE.refusesIndex("offer(5)", pad, () -> pad.offer(5));
        PROBE.refusesIndex("word(2, 0)", pad, () -> pad.word(2, 0));
        PROBE.refusesIndex("letter(0, 2)", pad, () -> pad.letter(0, 2));
        PROBE.refusesIndex("strokes(2)", pad, () -> pad.strokes(2));
        PROBE.refusesIndex("needs(2)", pad, () -> pad.needs(2));
        PROBE.refusesIndex("closest(2)", pad, () -> pad.closest(2));
        PROBE.due("the tape is as it was", pad.teach(), 0);
        PROBE.figures("the list of the tape", pad, 0, 1, 0, 0, 0, 0, 4, 0, 0, 0, 1, -1, 0);
        PROBE.refusesState("back", pad, pad::back);
    }

    private static void exceptionNamedFirst() {
        WordPad pad = PROBE.taught("word a weight 1;");
        Probe.type(pad, "x".repeat(20));
        PROBE.refusesArgument("type(123) at 20", pad, () -> pad.type(123));
        PROBE.refusesState("type(122) at 20", pad, () -> pad.type(122));
        PROBE.refusesIndex("take(5), none being near", pad, () -> pad.take(5));
        PROBE.refusesIndex("take(-1), none being near", pad, () -> pad.take(-1));
        PROBE.refusesState("take(4), none being near", pad, () -> pad.take(4));
    }
}
