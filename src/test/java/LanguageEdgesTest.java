import java.nio.charset.StandardCharsets;
import java.util.Arrays;
import java.util.List;

/**
 * "1. The language", sentence by sentence, at its edges: the last list that is allowed, and the
 * first one that is not. In a wrong list ^ stands ahead of the token, or the end, that is wrong.
 */
public final class LanguageEdgesTest {
    private static final Probe PROBE = new Probe();
    private static final List<String> KEYWORDS = Arrays.asList(("tag word weight of keys boost by when typed taken"
            + " limit far last begins not and or min max").split(" "));
    private static final String KNOWN = "tag t;word w weight 1 of t;";

    public static void main(String[] args) {
        fullTape();
        everyByteBetweenTokens();
        everyByteInNames();
        everyByteInNumbers();
        tokensThatWouldBeReadAsOne();
        longestTokens();
        keywordsAreNoNames();
        symbolsWhereNoneCanStand();
        everyBeginningOfAList();
        everyTokenBehindEveryBeginning();
        numbersOfLines();
        deepest();
        depthGoesBack();
        tokens400();
        errorOneIsToldFirst();
        namesToldTwice();
        namesToldAhead();
        toldByAnEarlierList();
        sevenTags();
        fortyOneWords();
        fiveRows();
        thirteenBoosts();
        weightsOfWords();
        bytesThatStandTwice();
        fromLeftToRight();
        numbersOfWordsAndTags();
        PROBE.end();
    }

    private static void good(String list) {
        PROBE.taught(list);
    }

    private static void wrong(String marked, int error) {
        PROBE.wrongAt(marked, error);
    }

    private static boolean isLetter(int b) {
        return b >= 'a' && b <= 'z';
    }

    private static boolean isDigit(int b) {
        return b >= '0' && b <= '9';
    }

    private static boolean isBlank(int b) {
        return b == 32 || b == 10;
    }

    private static String numbered(String start, int from, int to, String end) {
        StringBuilder text = new StringBuilder();
        for (int i = from; i < to; i++) {
            text.append(start).append(i).append(end);
        }
        return text.toString();
    }

    // ---- the tape and its tokens

    private static void fullTape() {
        String blanks = " ".repeat(1988);
        WordPad pad = PROBE.taught("tag t;" + blanks + "tag u;");
        PROBE.due("tags of a list of 2000 bytes", pad.count(1), 2);
        wrong("tag t;" + blanks + "tag u^#", 1);
        wrong("tag t;" + blanks + "tag uv^", 1);
        wrong("tag t" + "\n".repeat(1995) + "^", 1);
        good(" ".repeat(2000));
    }

    private static void everyByteBetweenTokens() {
        for (int b = 0; b < 256; b++) {
            char sign = (char) b;
            if (isBlank(b)) {
                good(sign + "tag t;" + sign + "tag" + sign + sign + "u" + sign + ";" + sign);
            } else {
                wrong("^" + sign + "tag t;", 1);
                wrong("tag t;^" + sign + "tag u;", 1);
                wrong("tag t;^" + sign, 1);
            }
        }
    }

    private static void everyByteInNames() {
        for (int b = 0; b < 256; b++) {
            char sign = (char) b;
            if (isLetter(b)) {
                good("tag " + sign + "1a;");
            } else {
                wrong(isBlank(b) ? "tag " + sign + "^1a;" : "tag ^" + sign + "1a;", 1);
            }
            if (isLetter(b) || isDigit(b) || isBlank(b)) {
                good("tag a" + sign + ";");
            } else {
                wrong(b == ';' ? "tag a;^;" : "tag a^" + sign + ";", 1);
            }
        }
    }

    private static void everyByteInNumbers() {
        for (int b = 0; b < 256; b++) {
            char sign = (char) b;
            if (isDigit(b) || isBlank(b)) {
                good("word w weight 1" + sign + ";");
                good("word w weight " + sign + "1;");
            } else {
                wrong(b == ';' ? "word w weight 1;^;" : "word w weight 1^" + sign + ";", 1);
                wrong("word w weight ^" + sign + "1;", 1);
            }
        }
    }

    private static void tokensThatWouldBeReadAsOne() {
        wrong("^tagt;", 1);
        wrong("^wordw weight 1;", 1);
        wrong("word w ^weight1;", 1);
        good("tag t;word w weight 1of t;");
        wrong(KNOWN + "boost t by 1 ^when1=1;", 1);
        good(KNOWN + "boost t by 1when 1=1or 1=1and not 1=1;");
        wrong(KNOWN + "boost t by 1 when ^not1=1;", 1);
        wrong(KNOWN + "boost t by 1 when 1=1 ^or1=1;", 1);
        wrong("word w weight 1 ^1;", 1);
        // The longest token is read, even where a shorter one would fit.
        wrong(KNOWN + "boost t by 1 when 1< ^=1;", 1);
        wrong(KNOWN + "boost t by 1 when 1> ^=1;", 1);
        wrong(KNOWN + "boost t by 1 when 1=^<1;", 1);
        wrong(KNOWN + "boost t by 1 when 1=^>1;", 1);
        wrong(KNOWN + "boost t by 1 when 1<=^=1;", 1);
        wrong(KNOWN + "boost t by 1 when 1>=^=1;", 1);
        wrong(KNOWN + "boost t by 1 when 1=^=1;", 1);
        wrong(KNOWN + "boost t by 1 when 1<^>1;", 1);
        good(KNOWN + "boost t by 1 when 1<=1 and 1>=1 and 1<-1 and 1>(1)and[1=1];");
    }

    private static void longestTokens() {
        String ten = "abcdefghi9";
        good("tag " + ten + ";word " + ten + " weight 1 of " + ten + ";keys abcdefghij;boost " + ten
                + " by weight " + ten + " when last " + ten + " or begins " + ten + ";");
        String eleven = "^abcdefghi90";
        wrong("tag " + eleven + ";", 1);
        wrong("word " + eleven + " weight 1;", 1);
        wrong("word w weight 1 of " + eleven + ";", 1);
        wrong("keys " + eleven + ";", 1);
        wrong("boost " + eleven + " by 1 when 1=1;", 1);
        wrong(KNOWN + "boost t by weight " + eleven + " when 1=1;", 1);
        wrong(KNOWN + "boost t by 1 when last " + eleven + ";", 1);
        wrong(KNOWN + "boost t by 1 when begins " + eleven + ";", 1);
        wrong("tag ^" + "a".repeat(1990) + ";", 1);
        good("word w weight 009999;word v weight 000000;");
        good(KNOWN + "boost t by 999999 when 000000<999999;");
        wrong("word w weight ^0000000;", 1);
        wrong(KNOWN + "boost t by ^1000000 when 1=1;", 1);
        wrong(KNOWN + "boost t by 1 when 1=^9999999999;", 1);
    }

    private static void keywordsAreNoNames() {
        for (String keyword : KEYWORDS) {
            wrong("tag ^" + keyword + ";", 1);
            wrong("word ^" + keyword + " weight 1;", 1);
            wrong("word w weight 1 of ^" + keyword + ";", 1);
            wrong("keys ^" + keyword + ";", 1);
            wrong("keys x, ^" + keyword + ";", 1);
            wrong("boost ^" + keyword + " by 1 when 1=1;", 1);
            wrong(KNOWN + "boost t by weight ^" + keyword + " when 1=1;", 1);
            wrong(KNOWN + "boost t by 1 when last ^" + keyword + ";", 1);
            wrong(KNOWN + "boost t by 1 when begins ^" + keyword + ";", 1);
            good("tag " + keyword + "x;tag " + keyword + "1;tag x" + keyword + ";");
            String cut = keyword.substring(0, keyword.length() - 1);
            if (!KEYWORDS.contains(cut)) {
                good("tag " + cut + ";");
            }
        }
    }

    private static void symbolsWhereNoneCanStand() {
        String[] symbols = "( ) [ ] ; , + - * / < > = <= >=".split(" ");
        for (String symbol : symbols) {
            wrong("^" + symbol + "tag t;", 1);
            wrong("tag ^" + symbol + "t;", 1);
            wrong("word w weight ^" + symbol + "1;", 1);
            wrong("keys a, ^" + symbol + "b;", 1);
            wrong(KNOWN + "boost t ^" + symbol + "by 1 when 1=1;", 1);
            wrong(KNOWN + "boost t by 1 when last ^" + symbol + "w;", 1);
        }
    }

    // ---- the grammar

    /** The tape may end behind no token but the ; of a line, and no other byte may go on there. */
    private static void everyBeginningOfAList() {
        String[] tokens = ("tag t ; word w weight 1 of t ; word v weight 2 ; keys a , b ; boost t by 1 + typed * - ("
                + " min ( far , 2 ) - weight w ) / max ( 3 , limit ) when not [ last w or begins q ] and 1 <= taken"
                + " or 1 < 2 and 1 > 2 or not 1 >= 2 and 1 = 1 ;").split(" ");
        String ahead = "";
        for (String token : tokens) {
            if (ahead.isEmpty() || ahead.endsWith("; ")) {
                good(ahead);
            } else {
                wrong(ahead + "^", 1);
            }
            wrong(ahead + "^#", 1);
            wrong(ahead + "^aaaaaaaaaaa", 1);
            if (!token.equals("by")) {
                wrong(ahead + "^by", 1);
            }
            ahead += token + " ";
        }
        good(ahead);
    }

    /** Error 1 of each token behind each beginning of some lists, as the second reading tells it. */
    private static void everyTokenBehindEveryBeginning() {
        String[] lists = {"tag t ; word w weight 1 of t ; keys a , b ; boost t by min ( far , - weight w ) + ( 2 / 1 )"
                + " when not [ last w or begins q ] and 1 = taken or 3 <= limit ;",
            "boost t by - - - - ( ( ( max ( 1 , 2 ) ) ) ) when [ [ [ not [ [ not [ 1 < ( typed ) ] ] ] ] ] ] ;",
            "boost t by - ( - min ( - 1 , - - 2 ) * - 3 ) when not not not not not not not not 1 > 1 ;"};
        String[] tokens = (String.join(" ", KEYWORDS) + " n 1 ( ) [ ] ; , + - * / < > = <= >= # aaaaaaaaaaa 1234567")
                .split(" ");
        for (String list : lists) {
            String ahead = "";
            for (String own : list.split(" ")) {
                for (String token : tokens) {
                    asTheModelTells(ahead + token);
                    asTheModelTells(ahead + token + " ; ");
                }
                ahead += own + " ";
            }
            asTheModelTells(ahead);
        }
    }

    private static void asTheModelTells(String list) {
        PadModel model = new PadModel();
        byte[] bytes = list.getBytes(StandardCharsets.ISO_8859_1);
        for (int from = 0; from < bytes.length; from += 20) {
            int[] fives = new int[5];
            for (int i = from; i < from + 20; i++) {
                fives[(i - from) / 4] = fives[(i - from) / 4] << 8 | (i < bytes.length ? bytes[i] : 0);
            }
            model.feed(fives);
        }
        model.trim(bytes.length);
        int error = model.teach();
        PROBE.teach(new WordPad(), list, error, model.errorAt());
    }

    /** { x } is any number of times, also none; [ x ] is x or nothing. */
    private static void numbersOfLines() {
        good("");
        good("tag t;");
        wrong("^;", 1);
        wrong("tag t;^;", 1);
        good("keys a;");
        good("keys a,b,c,d;");
        wrong("keys a,^;", 1);
        wrong("keys ^,a;", 1);
        wrong("keys^", 1);
        good("word w weight 1;");
        wrong("word w weight 1 of ^;", 1);
        wrong("tag t;word w weight 1 of t ^of t;", 1);
        good(KNOWN + "boost t by 1+2-3+4 when 1=1 or 2=2 or 3=3;");
        good(KNOWN + "boost t by 1*2/3*4 when 1=1 and 2=2 and 3=3;");
        wrong(KNOWN + "boost t by ^*1 when 1=1;", 1);
        wrong(KNOWN + "boost t by 1 when ^and 1=1;", 1);
        wrong(KNOWN + "boost t by 1 when 1=1 and ^;", 1);
        wrong(KNOWN + "boost t by min ^1 when 1=1;", 1);
        wrong(KNOWN + "boost t by min(1^) when 1=1;", 1);
        wrong(KNOWN + "boost t by max(1,2^,3) when 1=1;", 1);
        wrong(KNOWN + "boost t by (1^,2) when 1=1;", 1);
        wrong(KNOWN + "boost t by 1 when (1^=1);", 1);
        wrong(KNOWN + "boost t by 1 when [1^]=1;", 1);
        wrong(KNOWN + "boost t by 1 when 1=^[1];", 1);
        wrong(KNOWN + "boost t by 1 when 1=^not 1;", 1);
        wrong(KNOWN + "boost t by 1 when last w^=1;", 1);
    }

    /** What opens, eight times, and what stands inside and closes it; the ninth one is wrong. */
    private static void deep(String ahead, String open, String inside, String close, String behind) {
        good(ahead + open.repeat(8) + inside + close.repeat(8) + behind);
        // Of min(1, it is the ( that is one too many.
        int bracket = Math.max(0, open.indexOf('('));
        wrong(ahead + open.repeat(8) + open.substring(0, bracket) + "^" + open.substring(bracket) + inside
                + close.repeat(9) + behind, 1);
    }

    private static void deepest() {
        String sum = "tag t;boost t by ";
        String test = "tag t;boost t by 1 when ";
        deep(sum, "(", "1", ")", " when 1=1;");
        deep(sum, "-", "1", "", " when 1=1;");
        deep(sum, "min(1,", "2", ")", " when 1=1;");
        deep(sum, "max(", "2", ",1)", " when 1=1;");
        deep(test, "not ", "1=1", "", ";");
        deep(test, "[", "1=1", "]", ";");
        deep(test, "(", "1", ")", "=1;");
        deep(test + "1<=", "-", "typed", "", ";");
        String[] openers = {"^(1)=1", "^-1=1", "min^(1,1)=1", "^not 1=1", "^[1=1]", "1=^(1)", "1=1+2*^-1", "1=max^(1,2)"};
        for (String opener : openers) {
            wrong(test + "not [not [not [not [" + opener + "]]]];", 1);
            good(test + "not [not [not [not " + opener.replace("^", "") + "]]];");
        }
        wrong(sum + "-(-(-(-(^-1)))) when 1=1;", 1);
        good(sum + "-(-(-((-1)))) when 1=1;");
        // Behind the one that is too deep all may be well, or not: it is told all the same.
        wrong(test + "[[[[[[[[^[", 1);
    }

    private static void depthGoesBack() {
        String sum = "tag t;boost t by ";
        String eight = "((((((((1))))))))";
        String test = "[[[[[[[[1=1]]]]]]]]";
        good(sum + eight + "+" + eight + "*" + eight + " when " + eight + "=" + eight + ";");
        good(sum + "-1*" + eight + "-" + eight + " when 1=1;");
        good(sum + "--------1+--------1 when 1=1;");
        good(sum + "min(-------1,(((((((1))))))))+" + eight + " when 1=1;");
        good(sum + "1 when " + test + " and " + test + " or not 1=1 and " + test + ";");
        good(sum + "1 when not [[[[[[[1=1]]]]]]] and " + test + ";");
        wrong(sum + "1 when not [[[[[[[1=^(1)]]]]]]] and " + test + ";", 1);
        wrong(sum + "min(1,-------^-1) when 1=1;", 1);
        wrong(sum + "(-1+-------^-1) when 1=1;", 1);
        good(sum + eight + " when 1=1;boost t by " + eight + " when " + test + ";");
    }

    private static void tokens400() {
        String tokens399 = "tag t;".repeat(133);
        wrong(tokens399 + "tag^", 1);
        wrong(tokens399 + "tag ^t;", 1);
        wrong(tokens399 + "tag \n ^abcdefghijk", 1);
        // 7 tokens, 194 times 2, and 5 behind them: 400.
        String list = "tag t;boost t by 1" + "+1".repeat(194) + " when 1=1;";
        PROBE.due("boosts of a list of 400 tokens", PROBE.taught(list).count(3), 1);
        good(list + " \n ");
        wrong(list + " \n ^tag u;", 1);
        wrong(list + "^#", 1);
        wrong(list + "^1234567", 1);
        wrong(list.replace("1=1;", "1=-1^;"), 1);
        wrong(list.replace("1=1;", "1<=1^"), 1);
        WordPad steps = PROBE.taught("tag t;word w weight 0 of t;boost t by 1" + "+1".repeat(190) + " when 1=1;");
        PROBE.due("the score of 191 ones", steps.word(0, 4), 191);
    }

    // ---- errors 2 to 6

    private static void errorOneIsToldFirst() {
        wrong("tag t;tag t;tag u^", 1);
        wrong("keys aa;^#", 1);
        wrong("word w weight 10000 of x^", 1);
        wrong("boost t by 1 when 1=1^", 1);
    }

    private static void namesToldTwice() {
        good("tag a;tag b;word a weight 1;word b weight 1;keys ab;");
        wrong("tag a;tag ^a;", 2);
        wrong("word a weight 1;word ^a weight 2;", 2);
        wrong("tag a;tag b;tag c;tag d;tag e;tag f;word a weight 1;tag ^f;", 2);
        good("tag a1;tag a;tag a12;tag a2;");
        good("word abcdefghij weight 1;word abcdefghi weight 1;word abcdefghik weight 1;");
        wrong("word abcdefghij weight 1;word ^abcdefghij weight 1;", 2);
    }

    private static void namesToldAhead() {
        good("tag t;word w weight 1 of t;");
        wrong("word w weight 1 of ^t;tag t;", 3);
        wrong("word w weight 1 of ^w;tag w;", 3);
        wrong("tag tt;word w weight 1 of ^t;", 3);
        good("tag t;boost t by 1 when 1=1;");
        wrong("boost ^t by 1 when 1=1;tag t;", 3);
        wrong("word t weight 1;boost ^t by 1 when 1=1;", 3);
        good(KNOWN + "boost t by weight w when last w and weight w=1;");
        wrong("tag t;boost t by 1 when last ^w;word w weight 1;", 3);
        wrong("tag t;boost t by 1 when last ^t;", 3);
        wrong("tag t;boost t by weight ^w when 1=1;word w weight 1;", 3);
        wrong("tag t;boost t by weight ^t when 1=1;", 3);
        wrong(KNOWN + "boost t by 1 when weight w<weight ^ww;", 3);
        // Names of rows of keys, and behind begins, can be any ones.
        good("tag t;boost t by 1 when begins t or begins nothing;keys nowher;");
    }

    /** What an earlier list told is forgotten: no name is one that was told twice, or ahead. */
    private static void toldByAnEarlierList() {
        WordPad pad = PROBE.taught(KNOWN + "keys ab;");
        PROBE.teach(pad, KNOWN + "keys ab;", 0, -1);
        Probe.say(pad, "said");
        PROBE.teach(pad, "tag u;boost u by weight said when 1=1;", 3, 24);
        PROBE.teach(pad, "word v weight 1 of t;", 3, 19);
        PROBE.teach(pad, "boost t by 1 when 1=1;", 3, 6);
        PROBE.teach(pad, "tag u;boost u by 1 when last w;", 3, 29);
        PROBE.due("the words are still there", pad.count(0), 2);
    }

    private static void sevenTags() {
        PROBE.due("six tags", PROBE.taught(numbered("tag t", 0, 6, ";")).count(1), 6);
        wrong(numbered("tag t", 0, 6, ";") + "tag ^t6;", 4);
        wrong(numbered("tag t", 0, 6, ";") + "tag ^t5;", 2);
        wrong(numbered("tag t", 0, 6, ";") + "tag ^t0;tag t6;", 2);
    }

    private static void fortyOneWords() {
        String forty = numbered("word w", 10, 50, " weight 1;");
        PROBE.due("forty words", PROBE.taught(forty).count(0), 40);
        wrong(forty + "word ^w50 weight 1;", 4);
        wrong(forty + "word ^w49 weight 1;", 2);
        wrong(forty + "word ^w50 weight 10000 of t;", 4);
    }

    private static void fiveRows() {
        PROBE.due("four rows", PROBE.taught("keys a,b,c,d;").count(2), 4);
        PROBE.due("four rows of four lines", PROBE.taught("keys a;keys b;keys c;keys d;").count(2), 4);
        wrong("keys a,b,c,d,^e;", 4);
        wrong("keys a,b;keys c,d;keys ^e;", 4);
        wrong("keys a,b,c,d,^ee;", 4);
        wrong("keys a,b,c,d,^a;", 4);
    }

    private static void thirteenBoosts() {
        String twelve = "tag t;" + numbered("boost t by ", 10, 22, " when 1=1;");
        PROBE.due("twelve boosts", PROBE.taught(twelve).count(3), 12);
        wrong(twelve + "^boost t by 1 when 1=1;", 4);
        wrong(twelve + "^boost nothing by 1 when 1=1;", 4);
        wrong("tag t;" + numbered("boost t by ", 10, 21, " when 1=1;") + "boost ^nothing by 1 when 1=1;", 3);
    }

    private static void weightsOfWords() {
        WordPad pad = PROBE.taught("word a weight 0;word b weight 9999;word c weight 009999;word d weight 1;");
        int[] weights = {0, 9999, 9999, 1};
        for (int word = 0; word < weights.length; word++) {
            PROBE.due("weight of " + word, pad.word(word, 0), weights[word]);
        }
        wrong("word a weight ^10000;", 5);
        wrong("word a weight ^010000;", 5);
        wrong("word a weight ^999999;", 5);
        wrong("word a weight 9999;word b weight ^10000;", 5);
        good(KNOWN + "boost t by 10000+weight w+999999 when 10000<10001;");
    }

    private static void bytesThatStandTwice() {
        good("keys abcdefghij;");
        wrong("keys ^aa;", 6);
        wrong("keys ^abcdefghia;", 6);
        wrong("keys ^a11;", 6);
        good("keys a1,b2;keys c3;");
        wrong("keys abc,^da;", 6);
        wrong("keys abc,^cd;", 6);
        wrong("keys a1;keys b;keys ^c1;", 6);
        wrong("keys az;keys b,^z;keys dd;", 6);
    }

    private static void fromLeftToRight() {
        wrong("keys ^aa;tag t;tag t;", 6);
        wrong("word w weight ^10000 of t;word w weight 1;", 5);
        wrong("word w weight 1 of ^t;word w weight 10000;", 3);
        wrong("tag t;tag ^t;keys aa;", 2);
        wrong("keys a,b,c,d,^e;word w weight 10000;", 4);
        wrong(KNOWN + "boost t by weight ^x when last y;", 3);
        wrong(KNOWN + "boost t by 1 when last ^y and weight x=1;", 3);
        wrong("boost ^x by weight y when last z;", 3);
        wrong("tag t;word w weight 1 of t;word ^w weight 10000 of x;", 2);
    }

    private static void numbersOfWordsAndTags() {
        WordPad pad = PROBE.taught("word c weight 1;tag z;word a weight 2 of z;tag y;word b weight 3 of y;"
                + "word d weight 4 of z;");
        int[] letters = {'c', 'a', 'b', 'd'};
        int[] tags = {-1, 0, 1, 0};
        for (int word = 0; word < letters.length; word++) {
            PROBE.due("letter of " + word, pad.letter(word, 0), letters[word]);
            PROBE.due("tag of " + word, pad.word(word, 1), tags[word]);
        }
        PROBE.due("a word that is taught later", Probe.say(pad, "aa"), 4);
        PROBE.due("one more", Probe.say(pad, "ab"), 5);
        WordPad six = PROBE.taught(numbered("tag t", 0, 6, ";") + "word w weight 1 of t5;word v weight 1 of t0;");
        PROBE.due("the last tag", six.word(0, 1), 5);
        PROBE.due("the first tag", six.word(1, 1), 0);
    }
}
