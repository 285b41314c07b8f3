/**
 * Promises 1 to 21, each one at its edges: the last value that is allowed, the first one that is
 * not, the empty and the full state, and that a call that is refused has changed nothing.
 */
public final class PromiseEdgesTest {
    private static final Probe PROBE = new Probe();
    private static final int BLANKS = 0x20202020;
    private static final int[] FAR_OFF = {Integer.MIN_VALUE, -1000, 1000, 65536, Integer.MAX_VALUE};

    public static void main(String[] args) {
        newObject();
        feed();
        feedIsRefused();
        trim();
        teach();
        teachInThePlaceOfAll();
        errorAt();
        countOfNothingAndOfMost();
        countIsRefused();
        type();
        back();
        take();
        takeOfFewerThanFive();
        say();
        sayOfFortyWords();
        setLimit();
        offer();
        word();
        letter();
        near();
        best();
        bestAtTheEnds();
        strokes();
        strokesOfDigits();
        needs();
        needsAroundTheGreatestScore();
        closest();
        mean();
        digest();
        mostCalls();
        PROBE.end();
    }

    /** Forty words of ten bytes and the weight 9999, no two with the same beginning but one byte. */
    private static String fortyWords() {
        StringBuilder list = new StringBuilder();
        for (int word = 0; word < 40; word++) {
            list.append("word ").append((char) ('a' + word % 20)).append(word / 20).append("bcdefghi weight 9999;");
        }
        return list.toString();
    }

    private static void newObject() {
        WordPad pad = new WordPad();
        PROBE.figures("a new pad", pad, 0, 0, 0, 0, 0, 0, 4, 0, 0, 0, 1, -1, 0);
        PROBE.offers("a new pad", pad);
        PROBE.due("errorAt of a new pad", pad.errorAt(), -1);
        PROBE.due("best of a new pad", pad.best(), -1);
        PROBE.dueDouble("mean of a new pad", pad.mean(), 0.0);
        PROBE.holds("no keys", !pad.near('a', 'b') && !pad.near('q', 'w') && !pad.near(-1, -1) && !pad.near(0, 0));
        PROBE.refusesState("back of a new pad", pad, pad::back);
        PROBE.refusesState("take(0) of a new pad", pad, () -> pad.take(0));
        PROBE.refusesState("say of a new pad", pad, pad::say);
        PROBE.refusesArgument("trim(1) of a new pad", pad, () -> pad.trim(1));
        PROBE.refusesIndex("word(0, 0) of a new pad", pad, () -> pad.word(0, 0));
        PROBE.refusesIndex("letter(0, 0) of a new pad", pad, () -> pad.letter(0, 0));
        PROBE.refusesIndex("strokes(0) of a new pad", pad, () -> pad.strokes(0));
        PROBE.refusesIndex("needs(0) of a new pad", pad, () -> pad.needs(0));
        PROBE.refusesIndex("closest(0) of a new pad", pad, () -> pad.closest(0));
        PROBE.due("teach of a new pad", pad.teach(), 0);
        // Two pads have nothing in common.
        WordPad other = PROBE.taught("keys ab;word a weight 1;");
        other.setLimit(9);
        other.type('a');
        PROBE.figures("beside another pad", pad, 0, 0, 0, 0, 0, 0, 4, 0, 0, 0, 1, -1, 0);
    }

    // ---- the language

    /** Each of the twenty bytes has its place on the tape, whatever its bits are. */
    private static void feed() {
        int[] signs = {'#', 0, 127, 128, 255, 'A'};
        for (int place = 0; place < 20; place++) {
            int sign = signs[place % signs.length];
            int[] fives = {BLANKS, BLANKS, BLANKS, BLANKS, BLANKS};
            int shift = 24 - 8 * (place % 4);
            fives[place / 4] = fives[place / 4] & ~(255 << shift) | sign << shift;
            WordPad pad = new WordPad();
            PROBE.due("feed", pad.feed(fives[0], fives[1], fives[2], fives[3], fives[4]), 20);
            PROBE.due("teach of a wrong byte", pad.teach(), 1);
            PROBE.due("its place", pad.errorAt(), place);
        }
        WordPad pad = new WordPad();
        PROBE.due("feed of -1", pad.feed(-1, -1, -1, -1, -1), 20);
        PROBE.due("feed once more", pad.feed(BLANKS, BLANKS, BLANKS, BLANKS, BLANKS), 40);
        pad.teach();
        PROBE.due("feed behind teach", pad.feed(BLANKS, BLANKS, BLANKS, BLANKS, BLANKS), 20);
    }

    private static void feedIsRefused() {
        int[] full = {1981, 1982, 1999, 2000};
        for (int bytes : full) {
            WordPad pad = new WordPad();
            Probe.write(pad, "tag t;" + " ".repeat(bytes - 12) + "tag u;");
            PROBE.due("bytes of the tape", pad.count(12), bytes);
            PROBE.refusesState("feed at " + bytes, pad, () -> pad.feed(-1, -1, -1, -1, -1));
            PROBE.due("teach behind it", pad.teach(), 0);
            PROBE.due("tags", pad.count(1), 2);
        }
        WordPad pad = new WordPad();
        Probe.write(pad, "tag t;" + " ".repeat(1974));
        PROBE.due("feed at 1980", pad.feed(0x74616720, 0x61626364, BLANKS, BLANKS, 0x2020203b), 2000);
        PROBE.refusesState("feed at 2000", pad, () -> pad.feed(0, 0, 0, 0, 0));
        PROBE.due("teach of 2000 bytes", pad.teach(), 0);
        PROBE.due("tags", pad.count(1), 2);
    }

    private static void trim() {
        WordPad pad = new WordPad();
        PROBE.due("trim(0) of nothing", pad.trim(0), 0);
        PROBE.refusesArgument("trim(1) of nothing", pad, () -> pad.trim(1));
        PROBE.refusesArgument("trim(-1) of nothing", pad, () -> pad.trim(-1));
        Probe.write(pad, "tag t;tag u;tag v;##");
        int[] wrong = {21, 2000, -1, Integer.MIN_VALUE, Integer.MAX_VALUE};
        for (int n : wrong) {
            PROBE.refusesArgument("trim(" + n + ") of 20", pad, () -> pad.trim(n));
        }
        PROBE.due("trim(20) of 20", pad.trim(20), 20);
        PROBE.due("trim(18) of 20", pad.trim(18), 18);
        PROBE.due("bytes", pad.count(12), 18);
        // What was cut off does not come back.
        PROBE.refusesArgument("trim(19) of 18", pad, () -> pad.trim(19));
        PROBE.due("trim(12)", pad.trim(12), 12);
        Probe.write(pad, "tag w1;");
        PROBE.due("teach", pad.teach(), 0);
        PROBE.due("tags", pad.count(1), 3);
        Probe.write(pad, "##");
        PROBE.due("trim(0)", pad.trim(0), 0);
        PROBE.due("teach of what is left", pad.teach(), 0);
        Probe.write(pad, " ".repeat(2000));
        PROBE.refusesArgument("trim(2001) of 2000", pad, () -> pad.trim(2001));
        PROBE.due("trim(2000) of 2000", pad.trim(2000), 2000);
        PROBE.due("trim(1) of 2000", pad.trim(1), 1);
        PROBE.due("trim(1) of 1", pad.trim(1), 1);
    }

    private static void teach() {
        WordPad pad = PROBE.taught("keys ab;tag t;word ab weight 7 of t;word b weight 2;boost t by 90 when last b;");
        pad.setLimit(0);
        Probe.say(pad, "b");
        Probe.say(pad, "new");
        Probe.say(pad, "b");
        Probe.type(pad, "ab");
        String[] wrong = {"^#", "tag t;tag ^t;", "word w weight 1 of ^t;", "keys c,d,e,f,^g;", "word w weight ^10000;",
            "keys ^cc;", "tag x;word ab weight 1 of x;word ^ab weight 2;"};
        int[] errors = {1, 2, 3, 4, 5, 6, 2};
        for (int i = 0; i < wrong.length; i++) {
            PROBE.teach(pad, wrong[i].replace("^", ""), errors[i], wrong[i].indexOf('^'));
            PROBE.figures("behind error " + errors[i], pad, 3, 1, 1, 1, 2, 3, 0, 25, 1, 1, 7, 1, 0);
            PROBE.wordFigures("behind error " + errors[i], pad, 0, 7, 0, 2, 0, 97, 0);
            PROBE.holds("the keys stay", pad.near('a', 'b') && !pad.near('c', 'd'));
        }
        PROBE.due("what is typed can be said", pad.say(), 0);
        PROBE.due("the boost stays, but b is not the latest", pad.word(0, 4), 12);
        pad.type('a');
        PROBE.teach(pad, "tag u;word ab weight 3 of u;", 0, -1);
        PROBE.figures("behind a new list", pad, 1, 1, 0, 0, 0, 0, 0, 3, 1, 1, 3, -1, 0);
        PROBE.wordFigures("behind a new list", pad, 0, 3, 0, 2, 0, 3, 0);
        PROBE.holds("the keys are gone", !pad.near('a', 'b'));
        // The tape is empty behind a list, and the empty list tells nothing.
        PROBE.due("teach of the empty tape", pad.teach(), 0);
        PROBE.figures("behind the empty list", pad, 0, 0, 0, 0, 0, 0, 0, 0, 0, 0, 1, -1, 0);
    }

    /** Lists that grow and shrink, good and wrong ones, on one pad: of none is anything left. */
    private static void teachInThePlaceOfAll() {
        String[] lists = {
            "keys ab,cd;tag t;tag u;word aa weight 7 of u;word b weight 8 of t;word c weight 9;"
                + "boost u by 1+2*3 when typed=0 and taken=0;boost t by 4 when begins b or last c;",
            "tag u;word x weight 5 of u;boost u by -9 when 1=1;",
            "",
            "tag t;word aa weight 1;word b weight 2 of t;boost t by 100-(2*3) when [typed=0];boost t by 2 when 1=1;",
            "word aa weight 3;"};
        int[][] figures = {{3, 2, 2, 2, 24}, {1, 1, 0, 1, 5}, {0, 0, 0, 0, 0}, {2, 1, 0, 2, 3}, {1, 0, 0, 0, 3}};
        int[][] scores = {{14, 8, 9}, {-4}, {}, {1, 98}, {3}};
        int[][] tags = {{1, 0, -1}, {0}, {}, {-1, 0}, {-1}};
        String[] wrong = {"tag v;tag ^v;", "word w weight 1;word v weight ^10000;", "keys ab,^a;", "tag^",
            "tag v;word w weight 1 of v;boost v by 1 when last ^q;"};
        int[] errors = {2, 5, 6, 1, 3};
        WordPad pad = new WordPad();
        for (int i = 0; i < 3 * lists.length; i++) {
            int now = i * 2 % lists.length;
            PROBE.teach(pad, lists[now], 0, -1);
            if (i % 3 == 1) {
                PROBE.teach(pad, wrong[now].replace("^", ""), errors[now], wrong[now].indexOf('^'));
            }
            for (int what = 0; what < 4; what++) {
                PROBE.due("count(" + what + ") of " + lists[now], pad.count(what), figures[now][what]);
            }
            PROBE.due("all weights of " + lists[now], pad.count(7), figures[now][4]);
            PROBE.holds("the keys of " + lists[now], pad.near('a', 'b') == (now == 0) && pad.near('c', 'b') == (now == 0));
            for (int word = 0; word < scores[now].length; word++) {
                PROBE.due("score of " + word + " of " + lists[now], pad.word(word, 4), scores[now][word]);
                PROBE.due("tag of " + word + " of " + lists[now], pad.word(word, 1), tags[now][word]);
            }
        }
    }

    private static void errorAt() {
        WordPad pad = new WordPad();
        PROBE.teach(pad, "#", 1, 0);
        PROBE.due("errorAt once more", pad.errorAt(), 0);
        Probe.say(pad, "a");
        pad.take(0);
        Probe.write(pad, "tag");
        pad.trim(2);
        pad.setLimit(3);
        PROBE.due("errorAt behind other calls", pad.errorAt(), 0);
        pad.trim(0);
        PROBE.teach(pad, "tag t" + " ".repeat(1995), 1, 2000);
        PROBE.teach(pad, " ".repeat(1999) + "#", 1, 1999);
        PROBE.teach(pad, "", 0, -1);
        PROBE.teach(pad, "keys aa;", 6, 5);
        PROBE.teach(pad, "keys a;", 0, -1);
    }

    private static void countOfNothingAndOfMost() {
        WordPad pad = PROBE.taught(fortyWords());
        PROBE.figures("forty words", pad, 40, 0, 0, 0, 0, 0, 4, 399960, 40, 40, 1 + 20 + 40 * 9, -1, 0);
        PROBE.due("setLimit", pad.setLimit(9), 4);
        Probe.type(pad, "x".repeat(20));
        PROBE.figures("20 letters", pad, 40, 0, 0, 0, 20, 0, 9, 399960, 0, 0, 381, -1, 0);
        for (int i = 0; i < 20; i++) {
            pad.back();
        }
        pad.setLimit(0);
        pad.type('t');
        PROBE.figures("the last ones", pad, 40, 0, 0, 0, 1, 0, 0, 399960, 2, 2, 381, -1, 0);
        PROBE.due("take", pad.take(1), 39);
        PROBE.due("the latest", pad.count(11), 39);
        Probe.write(pad, " ".repeat(2000));
        PROBE.due("bytes of the tape", pad.count(12), 2000);
        WordPad most = PROBE.taught("tag a;tag b;tag c;tag d;tag e;tag f;keys a,b,c,d;" + "boost a by 1 when 1=1;".repeat(12));
        PROBE.figures("no words", most, 0, 6, 4, 12, 0, 0, 4, 0, 0, 0, 1, -1, 0);
        WordPad nodes = PROBE.taught("word abc weight 0;word ab weight 0;word abd weight 0;word b weight 0;"
                + "word ba weight 0;word a1 weight 0;");
        PROBE.due("nodes", nodes.count(10), 8);
        PROBE.due("all weights", nodes.count(7), 0);
        PROBE.due("one word of one byte", PROBE.taught("word a weight 1;").count(10), 2);
        PROBE.due("one word of ten", PROBE.taught("word abcdefghij weight 1;").count(10), 11);
        // Words that begin so, and those that are near, are not the same ones.
        Probe.type(nodes, "ab");
        PROBE.due("words that begin so", nodes.count(9), 3);
        PROBE.due("words that are near", nodes.count(8), 6);
        Probe.type(nodes, "c");
        PROBE.due("the word itself", nodes.count(9), 1);
        nodes.type('c');
        PROBE.due("longer than the word", nodes.count(9), 0);
    }

    private static void countIsRefused() {
        WordPad pad = PROBE.taught("word a weight 1;");
        PROBE.refusesIndex("count(-1)", pad, () -> pad.count(-1));
        PROBE.refusesIndex("count(13)", pad, () -> pad.count(13));
        for (int what : FAR_OFF) {
            PROBE.refusesIndex("count(" + what + ")", pad, () -> pad.count(what));
        }
    }

    // ---- typing

    private static void type() {
        WordPad pad = new WordPad();
        PROBE.due("type(97)", pad.type(97), 1);
        PROBE.due("type(122)", pad.type(122), 2);
        int[] wrong = {96, 123, 0, 48, 57, 65, 90, -97, 97 + 256, 97 - 256};
        for (int letter : wrong) {
            PROBE.refusesArgument("type(" + letter + ")", pad, () -> pad.type(letter));
        }
        for (int letter : FAR_OFF) {
            PROBE.refusesArgument("type(" + letter + ")", pad, () -> pad.type(letter));
        }
        for (int typed = 3; typed <= 20; typed++) {
            PROBE.due("type", pad.type(97 + typed), typed);
        }
        PROBE.refusesState("type(97) at 20", pad, () -> pad.type(97));
        PROBE.refusesArgument("type(96) at 20", pad, () -> pad.type(96));
        pad.back();
        PROBE.due("type at 19", pad.type(97), 20);
    }

    private static void back() {
        WordPad pad = new WordPad();
        PROBE.refusesState("back of nothing", pad, pad::back);
        String typed = "abcdefghijklmnopqrsz";
        Probe.type(pad, typed);
        for (int left = 19; left >= 0; left--) {
            PROBE.due("back", pad.back(), typed.charAt(left));
            PROBE.due("letters that are left", pad.count(4), left);
        }
        PROBE.refusesState("back of what was taken back", pad, pad::back);
        Probe.say(pad, "a");
        PROBE.refusesState("back behind say", pad, pad::back);
        pad.type('a');
        pad.take(0);
        PROBE.refusesState("back behind take", pad, pad::back);
        pad.type('a');
        PROBE.teach(pad, "tag", 1, 3);
        PROBE.due("back behind a wrong list", pad.back(), 'a');
        pad.type('a');
        PROBE.teach(pad, "tag t;", 0, -1);
        PROBE.refusesState("back behind teach", pad, pad::back);
    }

    private static void take() {
        String list = "word a weight 60;word b weight 50;word c weight 40;word d weight 30;word e weight 20;"
                + "word f weight 10;";
        for (int place = 0; place < 5; place++) {
            WordPad pad = PROBE.taught(list);
            pad.setLimit(9);
            pad.type('x');
            PROBE.due("take(" + place + ")", pad.take(place), place);
            PROBE.due("its weight", pad.word(place, 0), 65 - 10 * place);
            PROBE.figures("behind take", pad, 6, 0, 0, 0, 0, 1, 9, 215, 6, 6, 7, place, 0);
        }
        WordPad pad = PROBE.taught(list);
        PROBE.refusesIndex("take(-1)", pad, () -> pad.take(-1));
        PROBE.refusesIndex("take(5), where a sixth one is near", pad, () -> pad.take(5));
        for (int place : FAR_OFF) {
            PROBE.refusesIndex("take(" + place + ")", pad, () -> pad.take(place));
        }
    }

    private static void takeOfFewerThanFive() {
        StringBuilder list = new StringBuilder();
        for (int words = 0; words <= 5; words++) {
            WordPad pad = PROBE.taught(list.toString());
            for (int place = 0; place < 5; place++) {
                int taken = place;
                if (place >= words) {
                    PROBE.refusesState("take(" + place + ") of " + words, pad, () -> pad.take(taken));
                }
            }
            PROBE.refusesIndex("take(5) of " + words, pad, () -> pad.take(5));
            if (words > 0) {
                PROBE.due("take of the last one of " + words, pad.take(words - 1), words - 1);
            }
            list.append("word ").append((char) ('a' + words)).append(" weight ").append(50 - words).append(";");
        }
    }

    private static void say() {
        WordPad pad = PROBE.taught("tag t;word abcdefghij weight 2 of t;word a1 weight 3;word zz weight 4;");
        PROBE.refusesState("say nothing", pad, pad::say);
        Probe.type(pad, "abcdefghijk");
        PROBE.refusesState("say 11 letters, ten of them a word", pad, pad::say);
        Probe.type(pad, "lmnopqrst");
        PROBE.refusesState("say 20 letters", pad, pad::say);
        for (int i = 0; i < 10; i++) {
            pad.back();
        }
        PROBE.due("say a word of 10 letters", pad.say(), 0);
        PROBE.wordFigures("said", pad, 0, 7, 0, 10, 0, 7, 0);
        PROBE.due("say a new word of 10 letters", Probe.say(pad, "abcdefghia"), 3);
        PROBE.wordFigures("taught", pad, 3, 6, -1, 10, 0, 6, 1);
        PROBE.due("say a new word of one letter", Probe.say(pad, "a"), 4);
        PROBE.wordFigures("taught", pad, 4, 6, -1, 1, 0, 6, 1);
        PROBE.due("say it again", Probe.say(pad, "a"), 4);
        PROBE.due("its weight", pad.word(4, 0), 11);
        PROBE.due("a beginning is no word", Probe.say(pad, "z"), 5);
        PROBE.due("a longer one is no word", Probe.say(pad, "zzz"), 6);
        PROBE.figures("said", pad, 7, 1, 0, 0, 0, 6, 4, 7 + 3 + 4 + 6 + 11 + 6 + 6, 7, 7, 1 + 10 + 1 + 1 + 3, 6, 0);
        PROBE.due("the seventh one", Probe.say(pad, "zz"), 2);
        // The eighth one is taught, gets 5 more, and is less by its eighth, which is none of 6.
        PROBE.due("the eighth one", Probe.say(pad, "new"), 7);
        int[] weights = {7, 3, 9 - 1, 6, 11 - 1, 6, 6, 6};
        for (int word = 0; word < weights.length; word++) {
            PROBE.due("weight of " + word, pad.word(word, 0), weights[word]);
        }
    }

    private static void sayOfFortyWords() {
        StringBuilder list = new StringBuilder();
        for (int word = 0; word < 39; word++) {
            list.append("word ").append((char) ('a' + word % 20)).append((char) ('a' + word / 20)).append(" weight 5;");
        }
        WordPad pad = PROBE.taught(list.toString());
        PROBE.due("say the 40th word", Probe.say(pad, "x"), 39);
        Probe.type(pad, "y");
        PROBE.refusesState("say the 41st word", pad, pad::say);
        pad.back();
        PROBE.due("say a known one of 40", Probe.say(pad, "x"), 39);
        PROBE.due("say the first one of 40", Probe.say(pad, "aa"), 0);
        Probe.type(pad, "abcdefghijk");
        PROBE.refusesState("say 11 letters at 40 words", pad, pad::say);
        PROBE.teach(pad, "", 0, -1);
        PROBE.due("say when there is room again", Probe.say(pad, "y"), 0);
    }

    private static void setLimit() {
        WordPad pad = new WordPad();
        PROBE.due("setLimit(0)", pad.setLimit(0), 4);
        PROBE.due("setLimit(9)", pad.setLimit(9), 0);
        PROBE.refusesArgument("setLimit(-1)", pad, () -> pad.setLimit(-1));
        PROBE.refusesArgument("setLimit(10)", pad, () -> pad.setLimit(10));
        for (int limit : FAR_OFF) {
            PROBE.refusesArgument("setLimit(" + limit + ")", pad, () -> pad.setLimit(limit));
        }
        PROBE.due("setLimit(9) again", pad.setLimit(9), 9);
        for (int limit = 8; limit >= 0; limit--) {
            PROBE.due("setLimit", pad.setLimit(limit), limit + 1);
            PROBE.due("the limit", pad.count(6), limit);
        }
        pad.setLimit(7);
        PROBE.teach(pad, "word w weight 1;", 0, -1);
        PROBE.due("the limit stays behind teach", pad.count(6), 7);
        PROBE.teach(pad, "#", 1, 0);
        PROBE.due("the limit stays behind a wrong list", pad.setLimit(1), 7);
    }

    // ---- offers

    private static void offer() {
        WordPad pad = new WordPad();
        PROBE.offers("no words", pad);
        PROBE.refusesIndex("offer(-1)", pad, () -> pad.offer(-1));
        PROBE.refusesIndex("offer(5)", pad, () -> pad.offer(5));
        for (int place : FAR_OFF) {
            PROBE.refusesIndex("offer(" + place + ")", pad, () -> pad.offer(place));
        }
        WordPad six = PROBE.taught("word a weight 1;word b weight 2;word c weight 3;word d weight 4;word e weight 5;"
                + "word f weight 6;");
        PROBE.offers("six words", six, 5, 4, 3, 2, 1);
        PROBE.refusesIndex("offer(5) of six words", six, () -> six.offer(5));
        six.setLimit(2);
        six.type('a');
        PROBE.offers("one of six words", six, 0);
        six.type('x');
        PROBE.offers("none of six words", six);
    }

    private static void word() {
        WordPad pad = PROBE.taught("tag s;tag t;word a weight 0;word abcdefghij weight 9999 of t;word c1 weight 5 of s;");
        PROBE.wordFigures("the first word", pad, 0, 0, -1, 1, 0, 0, 2);
        PROBE.wordFigures("the second word", pad, 1, 9999, 1, 10, 0, 9999, 0);
        PROBE.wordFigures("the last word", pad, 2, 5, 0, 2, 0, 5, 1);
        Probe.type(pad, "abx");
        PROBE.wordFigures("the first word", pad, 0, 0, -1, 1, 6, -60, -1);
        PROBE.wordFigures("the second word", pad, 1, 9999, 1, 10, 3, 9969, 0);
        PROBE.wordFigures("the last word", pad, 2, 5, 0, 2, 9, -85, -1);
        int[] words = {-1, 3, 39, 40};
        for (int word : words) {
            PROBE.refusesIndex("word(" + word + ", 0)", pad, () -> pad.word(word, 0));
        }
        for (int n : FAR_OFF) {
            PROBE.refusesIndex("word(" + n + ", 0)", pad, () -> pad.word(n, 0));
            PROBE.refusesIndex("word(0, " + n + ")", pad, () -> pad.word(0, n));
        }
        PROBE.refusesIndex("word(0, -1)", pad, () -> pad.word(0, -1));
        PROBE.refusesIndex("word(2, 6)", pad, () -> pad.word(2, 6));
        PROBE.refusesIndex("word(3, 6)", pad, () -> pad.word(3, 6));
        pad.setLimit(9);
        PROBE.due("place of the farthest one", pad.word(2, 5), 2);
    }

    private static void letter() {
        WordPad pad = PROBE.taught("word a weight 0;word abcdefgh90 weight 1;word z1 weight 2;");
        PROBE.due("letter(0, 0)", pad.letter(0, 0), 'a');
        String bytes = "abcdefgh90";
        for (int index = 0; index < 10; index++) {
            PROBE.due("letter(1, " + index + ")", pad.letter(1, index), bytes.charAt(index));
        }
        PROBE.due("letter(2, 0)", pad.letter(2, 0), 'z');
        PROBE.due("letter(2, 1)", pad.letter(2, 1), '1');
        int[][] wrong = {{0, -1}, {0, 1}, {0, 9}, {1, 10}, {1, -1}, {2, 2}, {-1, 0}, {3, 0}, {3, -1}, {40, 0}};
        for (int[] pair : wrong) {
            PROBE.refusesIndex("letter(" + pair[0] + ", " + pair[1] + ")", pad, () -> pad.letter(pair[0], pair[1]));
        }
        for (int n : FAR_OFF) {
            PROBE.refusesIndex("letter(0, " + n + ")", pad, () -> pad.letter(0, n));
            PROBE.refusesIndex("letter(" + n + ", 0)", pad, () -> pad.letter(n, 0));
        }
        PROBE.due("a word that is taught", Probe.say(pad, "yx"), 3);
        PROBE.due("letter(3, 1)", pad.letter(3, 1), 'x');
        PROBE.refusesIndex("letter(3, 2)", pad, () -> pad.letter(3, 2));
    }

    private static void near() {
        WordPad pad = PROBE.taught("keys az,x9;");
        PROBE.holds("in a row", pad.near('a', 'z') && pad.near('z', 'a') && pad.near('x', '9') && pad.near('9', 'x'));
        PROBE.holds("in the row ahead", pad.near('x', 'a') && pad.near('x', 'z') && pad.near('z', 'x')
                && pad.near('9', 'z') && !pad.near('9', 'a') && !pad.near('a', '9'));
        int[] none = {-1, 0, 31, 47, 58, 96, 123, 127, 128, 255, 256, 'a' + 128, 'z' + 256, 'a' - 256,
            Integer.MIN_VALUE, Integer.MAX_VALUE, 'b', '0'};
        String keys = "azx9";
        for (int b : none) {
            PROBE.holds("no neighbour is " + b, !pad.near(b, b));
            for (int i = 0; i < keys.length(); i++) {
                PROBE.holds("no neighbour is " + b, !pad.near(b, keys.charAt(i)) && !pad.near(keys.charAt(i), b));
            }
        }
        for (int i = 0; i < keys.length(); i++) {
            PROBE.holds("no key is its own neighbour", !pad.near(keys.charAt(i), keys.charAt(i)));
        }
    }

    // ---- what would be

    private static void best() {
        PROBE.due("best of nothing", new WordPad().best(), -1);
        PROBE.due("best is a", PROBE.taught("word a weight 0;").best(), 'a');
        PROBE.due("best is z", PROBE.taught("word z weight 0;").best(), 'z');
        PROBE.due("the first one of a tie", PROBE.taught("word z weight 9;word c weight 9;word b weight 9;").best(), 'b');
        PROBE.due("one more than a tie", PROBE.taught("word z weight 10;word a weight 9;").best(), 'z');
        PROBE.due("added", PROBE.taught("word b weight 9;word za weight 5;word zb weight 5;").best(), 'z');
        PROBE.due("added to a tie", PROBE.taught("word b weight 10;word za weight 5;word zb weight 5;").best(), 'b');
        PROBE.due("of weights 0", PROBE.taught("word z weight 0;word y weight 0;").best(), 'y');
        PROBE.due("forty words of 9999", PROBE.taught(fortyWords()).best(), 'a');
        // Neither how near a word is nor a boost counts.
        WordPad boosted = PROBE.taught("tag t;word a weight 1 of t;word b weight 2;boost t by 100 when 1=1;");
        PROBE.due("without boosts", boosted.best(), 'b');
    }

    private static void bestAtTheEnds() {
        WordPad pad = PROBE.taught("keys ax;word abcdefghij weight 5;word ab weight 9;word a1 weight 90;word b2 weight 1;");
        String typed = "abcdefghij";
        for (int i = 0; i < 10; i++) {
            PROBE.due("best behind " + i, pad.best(), typed.charAt(i));
            pad.type(typed.charAt(i));
        }
        PROBE.due("best behind the whole word", pad.best(), -1);
        Probe.type(pad, typed);
        PROBE.due("best behind 20 letters", pad.best(), -1);
    }

    private static void strokes() {
        String heavy = "word xa weight 9;word xb weight 9;word xc weight 9;word xd weight 9;";
        PROBE.due("the only word", PROBE.taught("word abcdefghij weight 0;").strokes(0), 1);
        PROBE.due("the fifth word", PROBE.taught(heavy + "word xy weight 0;").strokes(4), 1);
        WordPad sixth = PROBE.taught(heavy + "word xe weight 9;word xy weight 0;");
        sixth.setLimit(0);
        PROBE.due("the sixth word", sixth.strokes(5), 3);
        // As heavy as the fifth one, it is offered for its number or its length only.
        PROBE.due("as heavy as the fifth one", PROBE.taught(heavy + "word xe weight 9;word y weight 9;").strokes(5), 1);
        PROBE.due("as long", PROBE.taught(heavy + "word xe weight 9;word yy weight 9;").strokes(5), 2);
        // Five that are never farther than it is, and always heavier: offered behind none of its bytes.
        WordPad never = PROBE.taught("word abcdefghij weight 0;tag t;word a weight 1 of t;word b weight 1 of t;"
                + "word c weight 1 of t;word d weight 1 of t;word e weight 1 of t;boost t by 999 when 1=1;");
        never.setLimit(9);
        PROBE.due("never, but behind too many letters", never.strokes(0), 5);
        WordPad later = PROBE.taught("tag t;word a weight 1;word b weight 1;word c weight 1;word d weight 1;"
                + "word e weight 1;word abc weight 0 of t;boost t by -999 when typed<=3;");
        later.setLimit(9);
        PROBE.due("not behind all of its letters either", later.strokes(5), 4);
        WordPad last = PROBE.taught("tag t;word a weight 1;word b weight 1;word c weight 1;word d weight 1;"
                + "word e weight 1;word abc weight 0 of t;boost t by -999 when typed<3;");
        last.setLimit(9);
        PROBE.due("behind the last one of its letters", last.strokes(5), 4);
        // It is as if nothing was typed, and nothing is changed.
        Probe.type(last, "qqqqqqqqqqqqqqqqqqqq");
        long before = last.digest();
        PROBE.due("with 20 letters typed", last.strokes(5), 4);
        PROBE.due("with 20 letters typed", last.strokes(0), 1);
        PROBE.due("digest behind strokes", last.digest(), before);
        PROBE.refusesIndex("strokes(-1)", last, () -> last.strokes(-1));
        PROBE.refusesIndex("strokes(6)", last, () -> last.strokes(6));
        for (int word : FAR_OFF) {
            PROBE.refusesIndex("strokes(" + word + ")", last, () -> last.strokes(word));
        }
    }

    private static void strokesOfDigits() {
        String heavy = "tag t;word a weight 1;word b weight 1;word c weight 1;word d weight 1;word e weight 1;";
        WordPad pad = PROBE.taught(heavy + "word a1 weight 0 of t;word ab1 weight 0 of t;word abc1 weight 0 of t;"
                + "word abcd weight 0 of t;boost t by -999 when typed<2;boost t by -999 when typed>2;");
        pad.setLimit(9);
        PROBE.due("a digit ahead of it", pad.strokes(5), -1);
        PROBE.due("a digit just behind it", pad.strokes(6), 3);
        PROBE.due("a digit later", pad.strokes(7), 3);
        // The tenth byte is the one that tells the words apart.
        StringBuilder list = new StringBuilder();
        for (int word = 0; word < 5; word++) {
            list.append("word abcdefghi").append((char) ('p' + word)).append(" weight 20;");
        }
        WordPad tenth = PROBE.taught(list + "word abcdefghi1 weight 0;word abcdefghij weight 0;");
        PROBE.due("the tenth byte is a digit", tenth.strokes(5), -1);
        PROBE.due("behind all ten letters", tenth.strokes(6), 11);
        PROBE.due("at once", tenth.strokes(4), 1);
        WordPad never = PROBE.taught(list.toString().replace("20", "90") + "word abcdefghij weight 0;");
        PROBE.due("not behind all ten letters either", never.strokes(5), 11);
        PROBE.due("a digit, but offered at once", PROBE.taught("word a1 weight 0;").strokes(0), 1);
    }

    private static void needs() {
        PROBE.due("the only word", PROBE.taught("word a weight 77;").needs(0), 0);
        WordPad pad = PROBE.taught("word b weight 9999;word a weight 3;word aa weight 5;word c weight 9998;");
        PROBE.due("ahead by its number", pad.needs(0), 9998);
        PROBE.due("behind by its number", pad.needs(1), -1);
        PROBE.due("behind by its length", pad.needs(2), -1);
        PROBE.due("behind by its number", pad.needs(3), -1);
        WordPad most = PROBE.taught("word b weight 9998;word a weight 3;word aa weight 5;");
        PROBE.due("just 9999", most.needs(1), 9999);
        PROBE.due("just 9999", most.needs(2), 9999);
        PROBE.due("ahead of lighter ones", most.needs(0), 5);
        WordPad equal = PROBE.taught("word a weight 3;word b weight 9999;");
        PROBE.due("as heavy as the heaviest", equal.needs(0), 9999);
        // What is farther, or boosted, needs as much more or less.
        WordPad far = PROBE.taught("tag t;word ab weight 9 of t;word cd weight 40;word xyz weight 1;"
                + "boost t by 20 when 1=1;");
        PROBE.due("boosted", far.needs(0), 20);
        Probe.type(far, "c");
        PROBE.due("3 far", far.needs(0), 50);
        PROBE.due("0 far", far.needs(1), 0);
        PROBE.due("just near", far.word(2, 3), 3);
        far.setLimit(3);
        PROBE.due("as far as the limit", far.needs(2), 71);
        far.setLimit(2);
        PROBE.due("farther than the limit", far.needs(2), -1);
        PROBE.due("ahead of those that are near alone", far.needs(1), 0);
        PROBE.refusesIndex("needs(-1)", far, () -> far.needs(-1));
        PROBE.refusesIndex("needs(3)", far, () -> far.needs(3));
        for (int word : FAR_OFF) {
            PROBE.refusesIndex("needs(" + word + ")", far, () -> far.needs(word));
        }
        long before = far.digest();
        far.needs(0);
        PROBE.due("digest behind needs", far.digest(), before);
    }

    /** Needs of two words that are boosted by so much; the first one leads a tie. */
    private static void needsOf(String boost, String otherBoost, int first, int second) {
        WordPad pad = PROBE.taught("tag t;tag u;word a weight 4 of t;word b weight 6 of u;boost t by " + boost
                + " when 1=1;boost u by " + otherBoost + " when 1=1;");
        PROBE.due("needs(0) of " + boost + " beside " + otherBoost, pad.needs(0), first);
        PROBE.due("needs(1) of " + boost + " beside " + otherBoost, pad.needs(1), second);
    }

    private static void needsAroundTheGreatestScore() {
        String most = "(65536*32768-1)";
        String least = "(65536*32768)";
        // The scores are 4 and 6 more than the boosts.
        needsOf(most + "-4", most + "-6", 4, -1);
        needsOf(most + "-5", most + "-6", 5, 6);
        needsOf(most + "-6", most + "-7", 5, 6);
        needsOf(most + "-4", least, 0, -1);
        needsOf(least, least, 6, 5);
        needsOf(least, least + "-6", 0, 0);
        needsOf(least + "-4", least + "-6", 0, 0);
        needsOf(most, "0", 0, 0);
        needsOf(least + "-1", "0", 0, 0);
    }

    private static void closest() {
        PROBE.due("the only word", PROBE.taught("word a weight 1;").closest(0), -1);
        WordPad two = PROBE.taught("word abcdefghij weight 1;word k weight 2;");
        PROBE.due("ten bytes left out", two.closest(0), 30);
        PROBE.due("one byte left out", two.closest(1), 3);
        two.setLimit(0);
        Probe.type(two, "abcdefghijabcdefghij");
        PROBE.due("whatever is typed", two.closest(0), 30);
        PROBE.refusesIndex("closest(-1)", two, () -> two.closest(-1));
        PROBE.refusesIndex("closest(2)", two, () -> two.closest(2));
        for (int word : FAR_OFF) {
            PROBE.refusesIndex("closest(" + word + ")", two, () -> two.closest(word));
        }
        WordPad pad = PROBE.taught("keys a1b,c;word a weight 1;word ab weight 1;word b1 weight 1;word c weight 1;");
        PROBE.due("the beginning of another one", pad.closest(0), 0);
        PROBE.due("longer than the nearest one", pad.closest(1), 3);
        PROBE.due("digits are keys, too", pad.closest(2), 5);
        PROBE.due("a neighbour", pad.closest(3), 2);
        PROBE.due("the second one of two", Probe.say(pad, "abx"), 4);
        PROBE.due("the nearest one is the last one", pad.closest(1), 0);
    }

    private static void mean() {
        PROBE.dueDouble("mean of nothing", new WordPad().mean(), 0.0);
        PROBE.dueDouble("mean of a word of 0", PROBE.taught("word a weight 0;").mean(), 0.0);
        PROBE.dueDouble("mean of two", PROBE.taught("word a weight 0;word b weight 1;").mean(), 0.5);
        PROBE.dueDouble("mean of three", PROBE.taught("word a weight 0;word b weight 1;word c weight 0;").mean(), 1.0 / 3);
        PROBE.dueDouble("mean of forty", PROBE.taught(fortyWords()).mean(), 9999.0);
        WordPad pad = PROBE.taught("word a weight 9999;word b weight 0;word c weight 0;");
        PROBE.dueDouble("mean of a great one", pad.mean(), 3333.0);
        Probe.say(pad, "x");
        PROBE.dueDouble("mean behind say", pad.mean(), 10005 / 4.0);
        PROBE.teach(pad, "", 0, -1);
        PROBE.dueDouble("mean of no words any more", pad.mean(), 0.0);
    }

    /** The checksum, reckoned from what the other calls tell. */
    private static long checksum(WordPad pad, String typed) {
        long d = 773;
        for (int what = 0; what < 13; what++) {
            d = d * 31 + pad.count(what);
        }
        for (int i = 0; i < typed.length(); i++) {
            d = d * 31 + typed.charAt(i);
        }
        for (int word = 0; word < pad.count(0); word++) {
            for (int what = 0; what < 6; what++) {
                d = d * 31 + pad.word(word, what);
            }
            for (int index = 0; index < pad.word(word, 2); index++) {
                d = d * 31 + pad.letter(word, index);
            }
        }
        for (int place = 0; place < 5; place++) {
            d = d * 31 + pad.offer(place);
        }
        return d;
    }

    private static void digest() {
        WordPad empty = new WordPad();
        PROBE.due("digest of a new pad", empty.digest(), checksum(empty, ""));
        Probe.type(empty, "abcdefghijklmnopqrst");
        PROBE.due("digest of 20 letters", empty.digest(), checksum(empty, "abcdefghijklmnopqrst"));
        WordPad pad = PROBE.taught("keys ab,cd;tag t;word ab weight 9999 of t;word b1 weight 2;word c weight 0;word d weight 0;"
                + "word e weight 0;word abcdefghij weight 0;boost t by -(65536*32768) when typed=0;");
        PROBE.due("digest", pad.digest(), checksum(pad, ""));
        Probe.write(pad, "tag");
        pad.setLimit(9);
        Probe.type(pad, "bx");
        PROBE.due("digest behind bx", pad.digest(), checksum(pad, "bx"));
        Probe.type(pad, "zzzz");
        PROBE.due("digest with nothing near", pad.digest(), checksum(pad, "bxzzzz"));
        pad.say();
        PROBE.due("digest behind say", pad.digest(), checksum(pad, ""));
        PROBE.due("digest once more", pad.digest(), pad.digest());
    }

    /** An object is used for 512 calls; with each one the answers are still as due. */
    private static void mostCalls() {
        WordPad pad = new WordPad();
        int weight = 0;
        for (int taken = 1; taken <= 255; taken++) {
            pad.type('a');
            PROBE.due("say", pad.say(), 0);
            weight = taken == 1 ? 6 : Math.min(9999, weight + 5);
            weight -= taken % 8 == 0 ? weight / 8 : 0;
        }
        PROBE.due("the 511th call", pad.word(0, 0), weight);
        PROBE.due("the 512th call", pad.count(5), 255);
    }
}
