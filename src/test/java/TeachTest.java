/** Promises 4 (teach) and 5 (errorAt): the language, its errors and their positions. */
public final class TeachTest {
    private static final Probe PROBE = new Probe();
    private static final String WORD_T = "tag t; word w weight 1 of t; ";

    public static void main(String[] args) {
        goodLists();
        tokenEdges();
        grammarErrors();
        depthEdges();
        mostTokens();
        namesToldTwice();
        namesThatAreNone();
        tooMany();
        weights();
        keyRows();
        orderOfErrors();
        stateBehindTeach();
        manyLists();
        manyBeginnings();
        PROBE.end();
    }

    private static void good(String list) {
        PROBE.taught(list);
    }

    private static void goodLists() {
        good("");
        good("  \n \n");
        good("tag t;tag u ; word a weight 5of t;keys q,a1 , z;");
        good("\ntag\nt\n;\n");
        good("word abcdefghij weight 009999;");
        good(WORD_T + "boost t by 1 when typed<taken or limit>far and weight w=-1;");
        good(WORD_T + "boost t by min(1,2)*max(3,4)/(5-6) when 1<=2 and 2>=1;");
        good(WORD_T + "boost t by -1 when not last w or begins nothing and not[1=1 or 2=2];");
        good("tag word1; word tags weight 1 of word1; keys kx, weys;");
    }

    private static void tokenEdges() {
        PROBE.wrongList("word abcdefghijk weight 1;", 1, 5);
        PROBE.wrongList("word a weight 1234567;", 1, 14);
        PROBE.wrongList("word a weight 0000001;", 1, 14);
        PROBE.wrongList("tag A;", 1, 4);
        PROBE.wrongList("tag\tt;", 1, 3);
        PROBE.wrongList("tag t;\r\n", 1, 6);
        PROBE.wrongList("tag 1t;", 1, 4);
        PROBE.wrongList("tagt;", 1, 0);
        PROBE.wrongList("tag t\u00e9;", 1, 5);
        PROBE.wrongList("tag t; #", 1, 7);
        PROBE.wrongList("tag t;\u0000", 1, 6);
        PROBE.wrongList(WORD_T + "boost t by 1 when 1 < = 2;", 1, 51);
        PROBE.wrongList(WORD_T + "boost t by 1 when 1 =< 2;", 1, 50);
        PROBE.wrongList(WORD_T + "boost t by 1 when 1 == 2;", 1, 50);
        PROBE.wrongList(WORD_T + "boost t by 1 when 1 <> 2;", 1, 50);
    }

    private static void grammarErrors() {
        PROBE.wrongList("tag", 1, 3);
        PROBE.wrongList("tag  ", 1, 5);
        PROBE.wrongList("tag t", 1, 5);
        PROBE.wrongList(";", 1, 0);
        PROBE.wrongList("tag t;;", 1, 6);
        PROBE.wrongList("tag t, u;", 1, 5);
        PROBE.wrongList("tag tag;", 1, 4);
        PROBE.wrongList("word w;", 1, 6);
        PROBE.wrongList("word w weight;", 1, 13);
        PROBE.wrongList("word w weight -1;", 1, 14);
        PROBE.wrongList("word w weight 1 of 2;", 1, 19);
        PROBE.wrongList("keys;", 1, 4);
        PROBE.wrongList("keys a,;", 1, 7);
        PROBE.wrongList("keys a b;", 1, 7);
        PROBE.wrongList("boost t by 1;", 1, 12);
        PROBE.wrongList("boost t by w when 1=1;", 1, 11);
        PROBE.wrongList("boost t by 1 when 1;", 1, 19);
        PROBE.wrongList("boost t by 1 when (1 = 1);", 1, 21);
        PROBE.wrongList("boost t by 1 when [1 = 1;", 1, 24);
        PROBE.wrongList("boost t by 1 when [1] = 1;", 1, 20);
        PROBE.wrongList("boost t by 1 when 1 = 1 = 1;", 1, 24);
        PROBE.wrongList("boost t by [1] when 1 = 1;", 1, 11);
        PROBE.wrongList("boost t by not 1 when 1 = 1;", 1, 11);
        PROBE.wrongList("boost t by min(1) when 1 = 1;", 1, 16);
        PROBE.wrongList("boost t by max(1,2,3) when 1 = 1;", 1, 18);
        PROBE.wrongList("boost t by min 1 when 1 = 1;", 1, 15);
        PROBE.wrongList("boost t by 1 + when 1 = 1;", 1, 15);
        PROBE.wrongList("boost t by 1 when last 1;", 1, 23);
        PROBE.wrongList("boost t by 1 when begins far;", 1, 25);
        PROBE.wrongList("boost t by +1 when 1 = 1;", 1, 11);
        // Error 1 is told though another error stands ahead of it.
        PROBE.wrongList("tag t; tag t; tag", 1, 17);
    }

    private static void depthEdges() {
        String start = "tag t; boost t by ";
        String ones = " when 1=1;";
        good(start + "((((((((1))))))))" + ones);
        PROBE.wrongList(start + "(((((((((1)))))))))" + ones, 1, 18 + 8);
        good(start + "--------1" + ones);
        PROBE.wrongList(start + "---------1" + ones, 1, 18 + 8);
        good(start + "-(-(-(-(1))))" + ones);
        PROBE.wrongList(start + "-(-(-(-((1)))))" + ones, 1, 18 + 8);
        good(start + "-(-(-(-(1)-1)-1)-1)-(1)" + ones);
        good(start + "min(1,min(1,min(1,min(1,min(1,min(1,min(1,min(1,2))))))))" + ones);
        PROBE.wrongList(start + "(((((((( min (1,2) ))))))))" + ones, 1, 18 + 13);
        PROBE.wrongList(start + "((((((((-1))))))))" + ones, 1, 18 + 8);
        good(start + "min(-------1,-------1)" + ones);
        PROBE.wrongList(start + "min(--------1,1)" + ones, 1, 18 + 11);
        PROBE.wrongList(start + "max(1,--------1)" + ones, 1, 18 + 13);
        good(start + "min(1,2)+--------1" + ones);
        String test = "tag t; boost t by 1 when ";
        good(test + "not not not not not not not not 1=1;");
        PROBE.wrongList(test + "not not not not not not not not not 1=1;", 1, 25 + 32);
        good(test + "[[[[[[[[1=1]]]]]]]];");
        PROBE.wrongList(test + "[[[[[[[[[1=1]]]]]]]]];", 1, 25 + 8);
        good(test + "not [not [not [not [1=1] and [[1=1]]]]];");
        PROBE.wrongList(test + "not [not [not [not [1=(1)]]]];", 1, 25 + 22);
        PROBE.wrongList(test + "[[[[[[[[not 1=1]]]]]]]];", 1, 25 + 8);
        good(test + "not not not not not not not not 1=1 and not [[[[[[[1=1]]]]]]] or [1=-1];");
    }

    private static void mostTokens() {
        // 7 tokens, 194 times 2, and 5 behind them.
        String start = "tag t;boost t by 1" + "+1".repeat(194);
        good(start + " when 1=1;");
        good(start + " when 1=1;  \n");
        PROBE.wrongList(start + " when 1=-1;", 1, start.length() + 10);
        PROBE.wrongList(start + " when 1=1; tag u;", 1, start.length() + 11);
        PROBE.wrongList(start + " when 1=1; #", 1, start.length() + 11);
        String tags = "tag t;".repeat(133);
        PROBE.wrongList(tags, 2, 10);
        PROBE.wrongList(tags + "tag", 1, tags.length() + 3);
        PROBE.wrongList(tags + "tag t", 1, tags.length() + 4);
    }

    private static void namesToldTwice() {
        PROBE.wrongList("tag t; tag u; tag t;", 2, 18);
        PROBE.wrongList("word t weight 1; word t weight 2;", 2, 22);
        good("tag t; word t weight 1 of t; keys t;");
    }

    private static void namesThatAreNone() {
        PROBE.wrongList("word w weight 1 of t; tag t;", 3, 19);
        PROBE.wrongList("tag t; word w weight 1 of w;", 3, 26);
        PROBE.wrongList("boost t by 1 when 1=1; tag t;", 3, 6);
        PROBE.wrongList("word t weight 1; boost t by 1 when 1=1;", 3, 23);
        PROBE.wrongList("tag t; boost t by weight w when 1=1; word w weight 1;", 3, 25);
        PROBE.wrongList("tag t; boost t by 1 when weight t=1;", 3, 32);
        PROBE.wrongList("tag t; boost t by 1 when last t;", 3, 30);
        good("tag t; boost t by 1 when begins t or begins x1 or begins t;");
    }

    private static String lines(String start, int from, int to, String end) {
        StringBuilder text = new StringBuilder();
        for (int i = from; i < to; i++) {
            text.append(start).append(i).append(end);
        }
        return text.toString();
    }

    private static void tooMany() {
        good(lines("tag t", 0, 6, ";"));
        PROBE.wrongList(lines("tag t", 0, 7, ";"), 4, 6 * 7 + 4);
        PROBE.wrongList(lines("tag t", 0, 6, ";") + "tag t3;", 2, 6 * 7 + 4);
        good(lines("word w", 10, 50, " weight 1;"));
        PROBE.wrongList(lines("word w", 10, 51, " weight 1;"), 4, 40 * 18 + 5);
        PROBE.wrongList(lines("word w", 10, 50, " weight 1;") + "word w33 weight 1;", 2, 40 * 18 + 5);
        good("keys a, b; keys c, d;");
        PROBE.wrongList("keys a, b; keys c, d; keys e;", 4, 27);
        PROBE.wrongList("keys a, b; keys c, d, aa;", 4, 22);
        String boosts = lines("boost t by ", 10, 22, " when 1=1;");
        good("tag t;" + boosts);
        PROBE.wrongList("tag t;" + boosts + "boost u by 1 when 1=1;", 4, 6 + 12 * 23);
    }

    private static void weights() {
        PROBE.wrongList("word w weight 10000;", 5, 14);
        PROBE.wrongList("word w weight 999999 of t;", 5, 14);
        WordPad pad = PROBE.taught("tag t; word w weight 9999; word v weight 0; boost t by 999999 when 1=10000;");
        PROBE.due("the greatest weight", pad.word(0, 0), 9999);
        PROBE.due("the least weight", pad.word(1, 0), 0);
    }

    private static void keyRows() {
        PROBE.wrongList("keys aba;", 6, 5);
        PROBE.wrongList("keys ab, cdea;", 6, 9);
        PROBE.wrongList("keys ab; keys c, xb;", 6, 17);
        PROBE.wrongList("keys a11;", 6, 5);
        PROBE.due("rows", PROBE.taught("keys ab, cd; keys e;").count(2), 3);
    }

    private static void orderOfErrors() {
        PROBE.wrongList("keys aa; tag t; tag t; word w weight 10000 of x;", 6, 5);
        PROBE.wrongList("word w weight 10000 of x; keys aa;", 5, 14);
        PROBE.wrongList("word w weight 1 of x; word w weight 10000;", 3, 19);
    }

    private static void stateBehindTeach() {
        WordPad pad = PROBE.taught("keys ab; tag t; word one weight 3 of t; boost t by 9 when 1=1;");
        Probe.say(pad, "two");
        Probe.type(pad, "o");
        pad.setLimit(7);
        PROBE.teach(pad, "tag", 1, 3);
        PROBE.due("typed stays", pad.count(4), 1);
        PROBE.due("taken stays", pad.count(5), 1);
        PROBE.due("errorAt stays", pad.errorAt(), 3);
        PROBE.teach(pad, "word three weight 8;", 0, -1);
        int[] figures = {1, 0, 0, 0, 0, 0, 7, 8, 1, 1, 6, -1, 0};
        for (int what = 0; what < figures.length; what++) {
            PROBE.due("count(" + what + ") behind the second list", pad.count(what), figures[what]);
        }
        PROBE.holds("no keys any more", !pad.near('a', 'b'));
        PROBE.due("score without the old boost", pad.word(0, 4), 8);
        PROBE.due("no tag", pad.word(0, 1), -1);
        PROBE.teach(pad, "", 0, -1);
        PROBE.due("no words", pad.count(0), 0);
    }

    /** As many names behind begins as a list can hold, more than once. */
    private static void manyBeginnings() {
        WordPad pad = new WordPad();
        for (int i = 0; i < 4; i++) {
            PROBE.teach(pad, "tag t;word w weight 1 of t;boost t by 7 when begins b" + " or begins c".repeat(125)
                    + " or begins w;", 0, -1);
            pad.type('w');
            PROBE.due("score", pad.word(0, 4), 8);
            pad.back();
            PROBE.due("score", pad.word(0, 4), 1);
        }
    }

    /** Each list stands alone, however many were taught ahead of it. */
    private static void manyLists() {
        WordPad pad = new WordPad();
        for (int i = 0; i < 3; i++) {
            for (int boost = 3; boost < 6; boost++) {
                PROBE.teach(pad, "keys ab, cd, ef; tag t; tag u; tag v; word w weight 1 of u; word wa weight 2;"
                        + "boost t by 50 when 1=1; boost u by " + boost + " when begins w" + (boost == 4 ? "a" : "")
                        + " or begins q;", 0, -1);
                int[] figures = {2, 3, 3, 2};
                for (int what = 0; what < figures.length; what++) {
                    PROBE.due("count(" + what + ")", pad.count(what), figures[what]);
                }
                PROBE.due("weight", pad.word(0, 0), 1);
                PROBE.due("tag", pad.word(0, 1), 1);
                PROBE.due("no tag", pad.word(1, 1), -1);
                pad.type('w');
                PROBE.due("score", pad.word(0, 4), boost == 4 ? 1 : 1 + boost);
                PROBE.holds("neighbours", pad.near('a', 'b') && pad.near('c', 'a') && pad.near('e', 'd'));
                PROBE.teach(pad, "keys kl, pq; tag x; tag y; word zz weight 10000 of y;", 5, 42);
                PROBE.holds("no neighbours", !pad.near('k', 'l') && !pad.near('a', 'k'));
            }
        }
    }
}
