/** Promises 7 (type), 8 (back), 9 (take), 10 (say) and 11 (setLimit). */
public final class TypingTest {
    private static final Probe PROBE = new Probe();

    public static void main(String[] args) {
        typeAndBack();
        takeOffers();
        takeAtOnce();
        takenWordsGetHeavier();
        allWordsFade();
        sayKnownWords();
        sayNewWords();
        sayEdges();
        limits();
        PROBE.end();
    }

    private static void typeAndBack() {
        WordPad pad = new WordPad();
        PROBE.refuses("back of nothing", pad, IllegalStateException.class, pad::back);
        int[] noLetters = {96, 123, 48, 0, -1, 65, 97 + 256, Integer.MIN_VALUE, Integer.MAX_VALUE};
        for (int letter : noLetters) {
            PROBE.refuses("type(" + letter + ")", pad, IllegalArgumentException.class, () -> pad.type(letter));
        }
        for (int i = 1; i <= 20; i++) {
            PROBE.due("type", pad.type(i == 20 ? 'z' : 'a'), i);
        }
        PROBE.refuses("the 21st letter", pad, IllegalStateException.class, () -> pad.type('a'));
        PROBE.refuses("no letter at 20", pad, IllegalArgumentException.class, () -> pad.type(96));
        PROBE.due("back", pad.back(), 'z');
        PROBE.due("back", pad.back(), 'a');
        PROBE.due("count(4)", pad.count(4), 18);
        PROBE.due("type", pad.type('q'), 19);
        PROBE.due("back", pad.back(), 'q');
    }

    private static void takeOffers() {
        WordPad pad = PROBE.taught("word aa weight 1; word ab weight 3; word ac weight 2; word b weight 0;");
        PROBE.refuses("take(-1)", pad, IndexOutOfBoundsException.class, () -> pad.take(-1));
        PROBE.refuses("take(5)", pad, IndexOutOfBoundsException.class, () -> pad.take(5));
        PROBE.refuses("take(4)", pad, IllegalStateException.class, () -> pad.take(4));
        Probe.type(pad, "aa");
        PROBE.offers("behind aa", pad, 0, 1, 2);
        PROBE.refuses("take(3)", pad, IllegalStateException.class, () -> pad.take(3));
        PROBE.due("take(2)", pad.take(2), 2);
        PROBE.due("nothing is typed", pad.count(4), 0);
        PROBE.due("taken", pad.count(5), 1);
        PROBE.due("latest", pad.count(11), 2);
        PROBE.due("weight", pad.word(2, 0), 7);
        PROBE.due("take(0) with nothing typed", pad.take(0), 2);
        PROBE.due("take(1)", pad.take(1), 1);
        PROBE.due("latest", pad.count(11), 1);
    }

    /** Takes and needs by what is typed now, with no call between that would look at the offers. */
    private static void takeAtOnce() {
        WordPad pad = PROBE.taught("word a weight 1; word b weight 3;");
        PROBE.due("offer", pad.offer(0), 1);
        pad.setLimit(0);
        pad.type('a');
        PROBE.due("take", pad.take(0), 0);
        PROBE.due("take", pad.take(0), 0);
        pad.type('b');
        PROBE.due("needs", pad.needs(1), 0);
        pad.back();
        PROBE.due("needs", pad.needs(1), 12);
        PROBE.due("offer", pad.offer(0), 0);
        PROBE.teach(pad, "word c weight 1; word d weight 4;", 0, -1);
        PROBE.due("take behind teach", pad.take(0), 1);
    }

    private static void takenWordsGetHeavier() {
        WordPad pad = PROBE.taught("word a weight 9993; word b weight 9;");
        pad.take(0);
        PROBE.due("weight", pad.word(0, 0), 9998);
        pad.take(0);
        PROBE.due("weight", pad.word(0, 0), 9999);
        pad.take(0);
        PROBE.due("weight", pad.word(0, 0), 9999);
        PROBE.due("weight of the other one", pad.word(1, 0), 9);
    }

    private static void allWordsFade() {
        WordPad pad = PROBE.taught("word a weight 9999; word b weight 15; word c weight 16; word d weight 7;");
        for (int i = 0; i < 7; i++) {
            pad.take(0);
        }
        PROBE.due("weight behind 7", pad.word(0, 0), 9999);
        pad.take(0);
        int[] faded = {9999 - 1249, 14, 14, 7};
        for (int word = 0; word < faded.length; word++) {
            PROBE.due("weight of " + word + " behind 8", pad.word(word, 0), faded[word]);
        }
        for (int i = 0; i < 8; i++) {
            Probe.say(pad, "d");
        }
        int[] again = {8750 - 1093, 13, 13, 47 - 5};
        for (int word = 0; word < again.length; word++) {
            PROBE.due("weight of " + word + " behind 16", pad.word(word, 0), again[word]);
        }
        PROBE.due("taken", pad.count(5), 16);
    }

    private static void sayKnownWords() {
        WordPad pad = PROBE.taught("tag t; word ab weight 5 of t; word abc weight 6;");
        PROBE.due("say ab", Probe.say(pad, "ab"), 0);
        PROBE.due("weight", pad.word(0, 0), 10);
        PROBE.due("tag", pad.word(0, 1), 0);
        PROBE.due("words", pad.count(0), 2);
        PROBE.due("taken", pad.count(5), 1);
        PROBE.due("latest", pad.count(11), 0);
        PROBE.due("typed", pad.count(4), 0);
        // A word is said though it is not offered.
        pad.setLimit(0);
        PROBE.due("say abc", Probe.say(pad, "abc"), 1);
    }

    private static void sayNewWords() {
        WordPad pad = PROBE.taught("tag t; word ab weight 5 of t; boost t by 100 when last ab;");
        PROBE.due("say a", Probe.say(pad, "a"), 1);
        PROBE.due("weight", pad.word(1, 0), 6);
        PROBE.due("tag", pad.word(1, 1), -1);
        PROBE.due("length", pad.word(1, 2), 1);
        PROBE.due("say a keyword", Probe.say(pad, "weight"), 2);
        PROBE.due("say a tag", Probe.say(pad, "t"), 3);
        PROBE.due("letter", pad.letter(2, 5), 't');
        PROBE.due("say a again", Probe.say(pad, "a"), 1);
        PROBE.due("words", pad.count(0), 4);
        for (int i = 0; i < 3; i++) {
            Probe.say(pad, "ab");
        }
        // The 8th word is a new one: 1, 5 more, and less by its eighth at once.
        PROBE.due("say new", Probe.say(pad, "new"), 4);
        PROBE.due("weight of new", pad.word(4, 0), 6);
        PROBE.due("weight of ab", pad.word(0, 0), 18);
    }

    private static void sayEdges() {
        WordPad pad = new WordPad();
        PROBE.refuses("say nothing", pad, IllegalStateException.class, pad::say);
        Probe.type(pad, "abcdefghijk");
        PROBE.refuses("say 11 letters", pad, IllegalStateException.class, pad::say);
        pad.back();
        PROBE.due("say 10 letters", pad.say(), 0);
        PROBE.due("length", pad.word(0, 2), 10);
        for (int word = 1; word < 40; word++) {
            PROBE.due("say", Probe.say(pad, "" + (char) ('a' + word % 26) + (char) ('a' + word / 26)), word);
        }
        PROBE.due("words", pad.count(0), 40);
        Probe.type(pad, "zz");
        PROBE.refuses("say the 41st word", pad, IllegalStateException.class, pad::say);
        pad.back();
        pad.type('a');
        PROBE.due("say one of 40", pad.say(), 25);
    }

    private static void limits() {
        WordPad pad = PROBE.taught("word abc weight 5;");
        PROBE.refuses("setLimit(-1)", pad, IllegalArgumentException.class, () -> pad.setLimit(-1));
        PROBE.refuses("setLimit(10)", pad, IllegalArgumentException.class, () -> pad.setLimit(10));
        PROBE.due("setLimit(3)", pad.setLimit(3), 4);
        Probe.type(pad, "x");
        PROBE.offers("as far as the limit", pad, 0);
        PROBE.due("setLimit(2)", pad.setLimit(2), 3);
        PROBE.offers("farther than the limit", pad);
        PROBE.due("setLimit(9)", pad.setLimit(9), 2);
        Probe.type(pad, "xx");
        PROBE.offers("9 far", pad, 0);
        Probe.type(pad, "x");
        PROBE.offers("12 far", pad);
        PROBE.due("setLimit(0)", pad.setLimit(0), 9);
        PROBE.due("count(6)", pad.count(6), 0);
    }
}
