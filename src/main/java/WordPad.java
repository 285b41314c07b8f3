/**
 * The typeahead of a word pad: words with weights and tags, rows of keys, boosts, and what is
 * offered for the letters that are typed. ../shared/DOC.md says what each call answers.
 */
public final class WordPad {

    private static final int MOST_BYTES = 2000;
    private static final int FED_AT_ONCE = 20;
    private static final int MOST_TOKENS = 400;
    private static final int DEEPEST = 8;
    private static final int LONGEST_NAME = 10;
    private static final int LONGEST_NUMBER = 6;

    private static final int MOST_TAGS = 6;
    private static final int MOST_WORDS = 40;
    private static final int MOST_KEY_ROWS = 4;
    private static final int MOST_BOOSTS = 12;
    private static final int HEAVIEST = 9999;

    private static final int MOST_TYPED = 20;
    private static final int FIRST_LIMIT = 4;
    private static final int GREATEST_LIMIT = 9;
    private static final int OFFERS = 5;
    private static final int FIGURES = 13;
    private static final int WORD_FIGURES = 6;

    private final Row tape = new Row(MOST_BYTES);
    private final Reader reader = new Reader();
    private Book told = new Book();
    private Book draft = new Book();
    private final Hand hand = new Hand();
    private final Ranking ranking = new Ranking();
    private boolean rankingStands = false;
    private final Hand supposedHand = new Hand();
    private final Ranking supposedRanking = new Ranking();
    private int errorPosition = -1;

    /** Creates a pad without words and keys. */
    public WordPad() {
    }

    // ---- the language

    /** Appends the four bytes of each number to the tape, the highest one first. */
    public int feed(int a, int b, int c, int d, int e) throws IllegalStateException {
        if (tape.size() + FED_AT_ONCE > MOST_BYTES) {
            throw new IllegalStateException("the tape is full");
        }
        appendBytes(a);
        appendBytes(b);
        appendBytes(c);
        appendBytes(d);
        appendBytes(e);
        return tape.size();
    }

    /** Shortens the tape to its first n bytes. */
    public int trim(int n) throws IllegalArgumentException {
        if (n < 0 || n > tape.size()) {
            throw new IllegalArgumentException("the tape has not so many bytes");
        }
        tape.shorten(n);
        return n;
    }

    /** Reads the tape as a list; returns 0 or the error. */
    public int teach() {
        int error = reader.read(tape, draft);
        errorPosition = reader.errorPosition();
        tape.clear();
        if (error == 0) {
            Book before = told;
            told = draft;
            draft = before;
            hand.forget();
            rankingStands = false;
        }
        return error;
    }

    /** Returns the position of the error of the latest teach(), or -1. */
    public int errorAt() {
        return errorPosition;
    }

    /** Returns one of the figures of the pad. */
    public int count(int what) throws IndexOutOfBoundsException {
        if (what < 0 || what >= FIGURES) {
            throw new IndexOutOfBoundsException("no such figure");
        }
        rank();
        return figure(what);
    }

    // ---- typing

    /** Types a letter; returns how many are typed then. */
    public int type(int letter) throws IllegalArgumentException, IllegalStateException {
        if (!isLetter(letter)) {
            throw new IllegalArgumentException("no letter");
        }
        if (hand.typed.isFull()) {
            throw new IllegalStateException("too many letters");
        }
        hand.typed.add(letter);
        rankingStands = false;
        return hand.typed.size();
    }

    /** Takes the latest letter back and returns it. */
    public int back() throws IllegalStateException {
        if (hand.typed.size() == 0) {
            throw new IllegalStateException("nothing is typed");
        }
        rankingStands = false;
        return hand.typed.removeLast();
    }

    /** Takes the word that is offered at a place, and returns it. */
    public int take(int place) throws IndexOutOfBoundsException, IllegalStateException {
        if (place < 0 || place >= OFFERS) {
            throw new IndexOutOfBoundsException("no place among the offers");
        }
        rank();
        int word = ranking.offered(place);
        if (word < 0) {
            throw new IllegalStateException("no word is offered there");
        }
        takeWord(word);
        return word;
    }

    /** Takes what is typed as it is, and teaches it ahead of that if it is no word yet. */
    public int say() throws IllegalStateException {
        int length = hand.typed.size();
        if (length == 0 || length > LONGEST_NAME) {
            throw new IllegalStateException("no word has this length");
        }
        int word = told.words.find(hand.typed);
        if (word < 0) {
            if (told.words.isFull()) {
                throw new IllegalStateException("too many words");
            }
            word = told.addWord(hand.typed);
            told.weights.put(word, 1);
        }
        takeWord(word);
        return word;
    }

    /** Sets the limit and returns the one before. */
    public int setLimit(int limit) throws IllegalArgumentException {
        if (limit < 0 || limit > GREATEST_LIMIT) {
            throw new IllegalArgumentException("no such limit");
        }
        int before = hand.limit;
        hand.limit = limit;
        rankingStands = false;
        return before;
    }

    // ---- offers

    /** Returns the word that is offered at a place, or -1. */
    public int offer(int place) throws IndexOutOfBoundsException {
        if (place < 0 || place >= OFFERS) {
            throw new IndexOutOfBoundsException("no place among the offers");
        }
        rank();
        return ranking.offered(place);
    }

    /** Returns one of the figures of a word. */
    public int word(int word, int what) throws IndexOutOfBoundsException {
        if (!told.hasWord(word) || what < 0 || what >= WORD_FIGURES) {
            throw new IndexOutOfBoundsException("no such word, or no such figure");
        }
        rank();
        return wordFigure(word, what);
    }

    /** Returns a byte of a word. */
    public int letter(int word, int index) throws IndexOutOfBoundsException {
        if (!told.hasWord(word) || index < 0 || index >= told.words.at(word).size()) {
            throw new IndexOutOfBoundsException("no such word, or no such place in it");
        }
        return told.words.at(word).at(index);
    }

    /** Returns whether both bytes are keys that are neighbours. */
    public boolean near(int a, int b) {
        return told.keys.areNeighbours(a, b);
    }

    // ---- what would be

    /** Returns the letter behind which the words are the heaviest, or -1. */
    public int best() {
        int best = -1;
        int greatest = -1;
        for (int letter = 'a'; letter <= 'z'; letter++) {
            int weight = told.weightBehind(hand.typed, letter);
            if (weight > greatest) {
                greatest = weight;
                best = letter;
            }
        }
        return best;
    }

    /** Returns how many strokes a word takes from nothing typed on, or -1. */
    public int strokes(int word) throws IndexOutOfBoundsException {
        if (!told.hasWord(word)) {
            throw new IndexOutOfBoundsException("no such word");
        }
        Row bytes = told.words.at(word);
        supposedHand.supposeNothingTyped(hand);
        for (int typed = 0; typed < bytes.size(); typed++) {
            supposedRanking.renew(told, supposedHand);
            if (supposedRanking.isOffered(word)) {
                return typed + 1;
            }
            if (!isLetter(bytes.at(typed))) {
                return -1;
            }
            supposedHand.typed.add(bytes.at(typed));
        }
        // Behind all bytes the answer is the same, whether the word is offered then or not.
        return bytes.size() + 1;
    }

    /** Returns the least weight with which a word would be offered at the place 0, or -1. */
    public int needs(int word) throws IndexOutOfBoundsException {
        if (!told.hasWord(word)) {
            throw new IndexOutOfBoundsException("no such word");
        }
        rank();
        long score = ranking.leastScoreToLead(told, word);
        if (ranking.place(word) < 0 || score > Integer.MAX_VALUE) {
            return -1;
        }
        int scoreWithoutWeight = ranking.score(word) - told.weights.at(word);
        long weight = Math.max(0L, score - scoreWithoutWeight);
        return weight > HEAVIEST ? -1 : (int) weight;
    }

    /** Returns how far the nearest other word is from a word that is typed whole, or -1. */
    public int closest(int word) throws IndexOutOfBoundsException {
        if (!told.hasWord(word)) {
            throw new IndexOutOfBoundsException("no such word");
        }
        int nearest = -1;
        for (int other = 0; other < told.words.size(); other++) {
            if (other != word) {
                int far = ranking.distance(told.words.at(word), told.words.at(other), told.keys);
                nearest = nearest < 0 ? far : Math.min(nearest, far);
            }
        }
        return nearest;
    }

    /** Returns the mean weight of all words; 0 without any. */
    public double mean() {
        int words = told.words.size();
        return words == 0 ? 0.0 : (double) told.allWeights() / words;
    }

    /** Computes a checksum of all that the pad tells. */
    public long digest() {
        rank();
        long d = 773;
        for (int what = 0; what < FIGURES; what++) {
            d = d * 31 + figure(what);
        }
        d = hand.typed.addTo(d);
        for (int word = 0; word < told.words.size(); word++) {
            for (int what = 0; what < WORD_FIGURES; what++) {
                d = d * 31 + wordFigure(word, what);
            }
            d = told.words.at(word).addTo(d);
        }
        for (int place = 0; place < OFFERS; place++) {
            d = d * 31 + ranking.offered(place);
        }
        return d;
    }

    private static boolean isLetter(int sign) {
        return sign >= 'a' && sign <= 'z';
    }

    private static boolean isDigit(int sign) {
        return sign >= '0' && sign <= '9';
    }

    private void appendBytes(int four) {
        for (int shift = 24; shift >= 0; shift -= 8) {
            tape.add((four >>> shift) & 255);
        }
    }

    /** Reckons the ranking anew if something that it depends on has changed. */
    private void rank() {
        if (!rankingStands) {
            ranking.renew(told, hand);
            rankingStands = true;
        }
    }

    private void takeWord(int word) {
        told.weights.put(word, Math.min(HEAVIEST, told.weights.at(word) + 5));
        hand.taken++;
        hand.latest = word;
        hand.typed.clear();
        if (hand.taken % 8 == 0) {
            told.fade();
        }
        rankingStands = false;
    }

    /** What count() tells; the ranking has to stand. */
    private int figure(int what) {
        switch (what) {
            case 0:
                return told.words.size();
            case 1:
                return told.tags.size();
            case 2:
                return told.keys.rows();
            case 3:
                return told.boosts.size();
            case 4:
                return hand.typed.size();
            case 5:
                return hand.taken;
            case 6:
                return hand.limit;
            case 7:
                return told.allWeights();
            case 8:
                return ranking.nearWords();
            case 9:
                return told.wordsThatBegin(hand.typed);
            case 10:
                return told.trieNodes();
            case 11:
                return hand.latest;
            default:
                return tape.size();
        }
    }

    /** What word() tells; the ranking has to stand. */
    private int wordFigure(int word, int what) {
        switch (what) {
            case 0:
                return told.weights.at(word);
            case 1:
                return told.tagOf.at(word);
            case 2:
                return told.words.at(word).size();
            case 3:
                return ranking.far(word);
            case 4:
                return ranking.score(word);
            default:
                return ranking.place(word);
        }
    }

    /**
     * A row of numbers with a fixed room. Nothing else in the program touches an int array, so
     * that every index is looked at here.
     */
    private static final class Row {
        private final int[] cells;
        private int size = 0;

        Row(int room) {
            cells = new int[Math.max(0, room)];
        }

        int size() {
            return size;
        }

        boolean isFull() {
            return size >= cells.length;
        }

        /** The number at a place; -1 outside, which is no byte, no kind of token and no word. */
        int at(int place) {
            return place >= 0 && place < size ? cells[place] : -1;
        }

        void put(int place, int number) {
            if (place >= 0 && place < size) {
                cells[place] = number;
            }
        }

        void add(int number) {
            if (size < cells.length) {
                cells[size] = number;
                size++;
            }
        }

        int removeLast() {
            if (size == 0) {
                return 0;
            }
            size--;
            return cells[size];
        }

        void shorten(int length) {
            if (length >= 0 && length < size) {
                size = length;
            }
        }

        void clear() {
            size = 0;
        }

        /** Takes over a part of another row. */
        void copy(Row other, int from, int length) {
            size = 0;
            for (int i = 0; i < length && i < cells.length; i++) {
                cells[i] = other.at(from + i);
                size++;
            }
        }

        void fill(int number) {
            size = 0;
            for (int i = 0; i < cells.length; i++) {
                add(number);
            }
        }

        /** How many numbers are the same from the first one on. */
        int sameAhead(Row other) {
            int most = Math.min(size, other.size);
            for (int i = 0; i < most; i++) {
                if (cells[i] != other.cells[i]) {
                    return i;
                }
            }
            return most;
        }

        boolean beginsWith(Row other) {
            return sameAhead(other) == other.size;
        }

        boolean isSame(Row other) {
            return size == other.size && sameAhead(other) == size;
        }

        long addTo(long checksum) {
            long d = checksum;
            for (int i = 0; i < size; i++) {
                d = d * 31 + cells[i];
            }
            return d;
        }
    }

    /** Names in the order in which they are told. */
    private static final class Names {
        private final Row[] names;
        private final Row nothing = new Row(0);
        private int size = 0;

        Names(int most) {
            names = new Row[Math.max(0, most)];
            for (int i = 0; i < names.length; i++) {
                names[i] = new Row(LONGEST_NAME);
            }
        }

        int size() {
            return size;
        }

        boolean isFull() {
            return size >= names.length;
        }

        Row at(int number) {
            return number >= 0 && number < size ? names[number] : nothing;
        }

        /** The number of a name, or -1. */
        int find(Row name) {
            for (int i = 0; i < size; i++) {
                if (names[i].isSame(name)) {
                    return i;
                }
            }
            return -1;
        }

        /** Returns the number of the new name, or -1 if there is no room. */
        int add(Row name) {
            if (size >= names.length) {
                return -1;
            }
            names[size].copy(name, 0, name.size());
            size++;
            return size - 1;
        }

        void clear() {
            size = 0;
        }
    }

    /** Rows of keys, held as the row and the place of each byte. */
    private static final class Keys {
        private static final int BYTES = 128;
        private final Row rowOf = new Row(BYTES);
        private final Row placeOf = new Row(BYTES);
        private int rows = 0;

        Keys() {
            clear();
        }

        void clear() {
            rowOf.fill(-1);
            placeOf.fill(-1);
            rows = 0;
        }

        int rows() {
            return rows;
        }

        /** Returns false if a byte stands twice; the keys are then of no use any more. */
        boolean addRow(Row name) {
            for (int place = 0; place < name.size(); place++) {
                int key = name.at(place);
                if (rowOf.at(key) >= 0) {
                    return false;
                }
                rowOf.put(key, rows);
                placeOf.put(key, place);
            }
            rows++;
            return true;
        }

        boolean areNeighbours(int a, int b) {
            int rowA = rowOf.at(a);
            int rowB = rowOf.at(b);
            if (rowA < 0 || rowB < 0) {
                return false;
            }
            int ahead = placeOf.at(b) - placeOf.at(a);
            if (rowA == rowB) {
                return ahead == 1 || ahead == -1;
            }
            if (rowA == rowB + 1) {
                return ahead == 0 || ahead == 1;
            }
            return rowB == rowA + 1 && (ahead == 0 || ahead == -1);
        }
    }

    /**
     * Boosts, each with the steps of its sum and the steps of its test in postfix order. The kind
     * of a step is the kind of the token that asks for it.
     */
    private static final class Boosts {
        /** The step of a - in front of a value, whose token is that of a difference, too. */
        static final int TURN = 30;

        private final Row tags = new Row(MOST_BOOSTS);
        private final Row sumStarts = new Row(MOST_BOOSTS);
        private final Row testStarts = new Row(MOST_BOOSTS);
        private final Row ends = new Row(MOST_BOOSTS);
        private final Row kinds = new Row(MOST_TOKENS);
        private final Row values = new Row(MOST_TOKENS);
        // A name behind begins takes two tokens of the list at least.
        private final Names beginnings = new Names(MOST_TOKENS / 2);

        void clear() {
            tags.clear();
            sumStarts.clear();
            testStarts.clear();
            ends.clear();
            kinds.clear();
            values.clear();
            beginnings.clear();
        }

        int size() {
            return tags.size();
        }

        void startSum() {
            sumStarts.add(kinds.size());
        }

        void startTest() {
            testStarts.add(kinds.size());
        }

        void end() {
            ends.add(kinds.size());
        }

        void addStep(int kind, int value) {
            kinds.add(kind);
            values.add(value);
        }

        /** Puts what the names stand for in the place of the tokens that name it. */
        void link(Row meanings) {
            for (int step = 0; step < kinds.size(); step++) {
                int kind = kinds.at(step);
                if (kind == Tokens.WEIGHT || kind == Tokens.LAST || kind == Tokens.BEGINS) {
                    values.put(step, meanings.at(values.at(step)));
                }
            }
        }
    }

    /** All that a list tells, and the words that were taught later. */
    private static final class Book {
        private final Names tags = new Names(MOST_TAGS);
        private final Names words = new Names(MOST_WORDS);
        private final Row weights = new Row(MOST_WORDS);
        private final Row tagOf = new Row(MOST_WORDS);
        private final Keys keys = new Keys();
        private final Boosts boosts = new Boosts();

        void clear() {
            tags.clear();
            words.clear();
            weights.clear();
            tagOf.clear();
            keys.clear();
            boosts.clear();
        }

        boolean hasWord(int word) {
            return word >= 0 && word < words.size();
        }

        /** Adds a word with the weight 0 and without a tag; returns its number. */
        int addWord(Row name) {
            weights.add(0);
            tagOf.add(-1);
            return words.add(name);
        }

        int allWeights() {
            int sum = 0;
            for (int word = 0; word < weights.size(); word++) {
                sum += weights.at(word);
            }
            return sum;
        }

        void fade() {
            for (int word = 0; word < weights.size(); word++) {
                int weight = weights.at(word);
                weights.put(word, weight - weight / 8);
            }
        }

        int wordsThatBegin(Row typed) {
            int found = 0;
            for (int word = 0; word < words.size(); word++) {
                if (words.at(word).beginsWith(typed)) {
                    found++;
                }
            }
            return found;
        }

        /** The weights of all words that begin so, added; -1 if there is no such word. */
        int weightBehind(Row typed, int letter) {
            int sum = -1;
            for (int word = 0; word < words.size(); word++) {
                Row bytes = words.at(word);
                if (bytes.at(typed.size()) == letter && bytes.beginsWith(typed)) {
                    sum = Math.max(0, sum) + weights.at(word);
                }
            }
            return sum;
        }

        /** Each word brings a node for each beginning that it shares with no word ahead of it. */
        int trieNodes() {
            int nodes = 1;
            for (int word = 0; word < words.size(); word++) {
                int shared = 0;
                for (int ahead = 0; ahead < word; ahead++) {
                    shared = Math.max(shared, words.at(word).sameAhead(words.at(ahead)));
                }
                nodes += words.at(word).size() - shared;
            }
            return nodes;
        }
    }

    /** What is typed, what was taken, and the limit. */
    private static final class Hand {
        private final Row typed = new Row(MOST_TYPED);
        private int taken = 0;
        private int latest = -1;
        private int limit = FIRST_LIMIT;

        void forget() {
            typed.clear();
            taken = 0;
            latest = -1;
        }

        void supposeNothingTyped(Hand other) {
            typed.clear();
            taken = other.taken;
            latest = other.latest;
            limit = other.limit;
        }
    }

    /** The tokens of a tape, up to the end or to the first one that can't be. */
    private static final class Tokens {
        static final int TAG = 0;
        static final int WORD = 1;
        static final int WEIGHT = 2;
        static final int OF = 3;
        static final int KEYS = 4;
        static final int BOOST = 5;
        static final int BY = 6;
        static final int WHEN = 7;
        static final int TYPED = 8;
        static final int TAKEN = 9;
        static final int LIMIT = 10;
        static final int FAR = 11;
        static final int LAST = 12;
        static final int BEGINS = 13;
        static final int NOT = 14;
        static final int AND = 15;
        static final int OR = 16;
        static final int MIN = 17;
        static final int MAX = 18;
        static final int NAME = 20;
        static final int NUMBER = 21;
        static final int LESS_OR_EQUAL = 22;
        static final int GREATER_OR_EQUAL = 23;
        static final int END = 24;
        static final int BAD = 25;

        /** In the order of the constants above, with a blank behind each one. */
        private static final String KEYWORDS =
                "tag word weight of keys boost by when typed taken limit far last begins not and or min max ";
        /** The kind of a symbol of one byte is this byte. */
        private static final String SYMBOLS = "()[];,+-*/<>=";

        private final Names keywords = new Names(MAX + 1);
        private final Row kinds = new Row(MOST_TOKENS + 1);
        private final Row starts = new Row(MOST_TOKENS + 1);
        private final Row lengths = new Row(MOST_TOKENS + 1);
        private final Row spelling = new Row(LONGEST_NAME);

        Tokens() {
            for (int i = 0; i < KEYWORDS.length(); i++) {
                if (KEYWORDS.charAt(i) != ' ') {
                    spelling.add(KEYWORDS.charAt(i));
                } else {
                    keywords.add(spelling);
                    spelling.clear();
                }
            }
        }

        void read(Row tape) {
            kinds.clear();
            starts.clear();
            lengths.clear();
            int at = 0;
            for (int i = 0; i <= MOST_TOKENS; i++) {
                at = skipBlanks(tape, at);
                int length = lengthAt(tape, at);
                int kind = kindAt(tape, at, length);
                if (i == MOST_TOKENS && kind != END) {
                    kind = BAD;
                }
                kinds.add(kind);
                starts.add(at);
                lengths.add(length);
                if (kind == END || kind == BAD) {
                    return;
                }
                at += length;
            }
        }

        int size() {
            return kinds.size();
        }

        int kind(int token) {
            return kinds.at(token);
        }

        int start(int token) {
            return starts.at(token);
        }

        /** The bytes of a name; the row is used again at the next call. */
        Row spell(Row tape, int token) {
            spelling.copy(tape, starts.at(token), lengths.at(token));
            return spelling;
        }

        int number(Row tape, int token) {
            int number = 0;
            for (int i = 0; i < lengths.at(token) && i < LONGEST_NUMBER; i++) {
                number = number * 10 + tape.at(starts.at(token) + i) - '0';
            }
            return number;
        }

        private static int skipBlanks(Row tape, int from) {
            for (int at = from; at < tape.size(); at++) {
                if (tape.at(at) != ' ' && tape.at(at) != '\n') {
                    return at;
                }
            }
            return tape.size();
        }

        private static int lengthAt(Row tape, int at) {
            int first = tape.at(at);
            if (isLetter(first) || isDigit(first)) {
                return runLength(tape, at, isLetter(first));
            }
            return (first == '<' || first == '>') && tape.at(at + 1) == '=' ? 2 : 1;
        }

        private static int runLength(Row tape, int from, boolean withLetters) {
            for (int at = from; at < tape.size(); at++) {
                int sign = tape.at(at);
                if (!isDigit(sign) && !(withLetters && isLetter(sign))) {
                    return at - from;
                }
            }
            return tape.size() - from;
        }

        private int kindAt(Row tape, int at, int length) {
            int first = tape.at(at);
            if (first < 0) {
                return END;
            }
            if (isLetter(first)) {
                if (length > LONGEST_NAME) {
                    return BAD;
                }
                spelling.copy(tape, at, length);
                int keyword = keywords.find(spelling);
                return keyword < 0 ? NAME : keyword;
            }
            if (isDigit(first)) {
                return length > LONGEST_NUMBER ? BAD : NUMBER;
            }
            if (length == 2) {
                return first == '<' ? LESS_OR_EQUAL : GREATER_OR_EQUAL;
            }
            return SYMBOLS.indexOf((char) first) >= 0 ? first : BAD;
        }
    }

    /**
     * Looks for error 1, and writes down the steps of the boosts; with weight, last and begins goes
     * the token of the name behind them, for what it stands for is not known yet. A method that
     * answers false has stopped at the token that is wrong.
     */
    private static final class Grammar {
        private final Tokens tokens;
        private final Row kinds;
        private final Row tape;
        private final Boosts boosts;
        private int at = 0;

        Grammar(Tokens tokens, Row tape, Boosts boosts) {
            this.tokens = tokens;
            this.kinds = tokens.kinds;
            this.tape = tape;
            this.boosts = boosts;
        }

        /** Returns the position of the error, or -1. */
        int read() {
            boolean good = true;
            for (int lines = 0; lines < MOST_TOKENS && good && !is(Tokens.END); lines++) {
                switch (kinds.at(at)) {
                    case Tokens.TAG:
                        good = skip(Tokens.TAG) && skip(Tokens.NAME);
                        break;
                    case Tokens.WORD:
                        good = wordLine();
                        break;
                    case Tokens.KEYS:
                        good = keyRows();
                        break;
                    default:
                        good = boost();
                        break;
                }
                good = good && skip(';');
            }
            return good ? -1 : tokens.start(at);
        }

        private boolean is(int kind) {
            return kinds.at(at) == kind;
        }

        private boolean skip(int kind) {
            if (kinds.at(at) != kind) {
                return false;
            }
            at++;
            return true;
        }

        private boolean wordLine() {
            return skip(Tokens.WORD) && skip(Tokens.NAME) && skip(Tokens.WEIGHT)
                    && skip(Tokens.NUMBER) && (!skip(Tokens.OF) || skip(Tokens.NAME));
        }

        private boolean keyRows() {
            boolean good = skip(Tokens.KEYS) && skip(Tokens.NAME);
            for (int rows = 0; rows < MOST_TOKENS && good && skip(','); rows++) {
                good = skip(Tokens.NAME);
            }
            return good;
        }

        private boolean boost() {
            if (!skip(Tokens.BOOST) || !skip(Tokens.NAME) || !skip(Tokens.BY)) {
                return false;
            }
            boosts.startSum();
            if (!sum(0) || !skip(Tokens.WHEN)) {
                return false;
            }
            boosts.startTest();
            boolean good = test(0);
            boosts.end();
            return good;
        }

        private boolean test(int depth) {
            boolean good = both(depth);
            for (int i = 0; i < MOST_TOKENS && good && skip(Tokens.OR); i++) {
                good = both(depth);
                boosts.addStep(Tokens.OR, 0);
            }
            return good;
        }

        private boolean both(int depth) {
            boolean good = single(depth);
            for (int i = 0; i < MOST_TOKENS && good && skip(Tokens.AND); i++) {
                good = single(depth);
                boosts.addStep(Tokens.AND, 0);
            }
            return good;
        }

        private boolean single(int depth) {
            int kind = kinds.at(at);
            switch (kind) {
                case Tokens.NOT:
                    if (depth >= DEEPEST || !skip(kind) || !single(depth + 1)) {
                        return false;
                    }
                    boosts.addStep(kind, 0);
                    return true;
                case '[':
                    return depth < DEEPEST && skip(kind) && test(depth + 1) && skip(']');
                case Tokens.LAST:
                case Tokens.BEGINS:
                    boosts.addStep(kind, at + 1);
                    return skip(kind) && skip(Tokens.NAME);
                default:
                    if (!sum(depth)) {
                        return false;
                    }
                    int sign = kinds.at(at);
                    if (!compares(sign) || !skip(sign) || !sum(depth)) {
                        return false;
                    }
                    boosts.addStep(sign, 0);
                    return true;
            }
        }

        private static boolean compares(int kind) {
            return kind == '<' || kind == '>' || kind == '='
                    || kind == Tokens.LESS_OR_EQUAL || kind == Tokens.GREATER_OR_EQUAL;
        }

        private boolean sum(int depth) {
            boolean good = product(depth);
            for (int i = 0; i < MOST_TOKENS && good && (is('+') || is('-')); i++) {
                int kind = kinds.at(at);
                good = skip(kind) && product(depth);
                boosts.addStep(kind, 0);
            }
            return good;
        }

        private boolean product(int depth) {
            boolean good = value(depth);
            for (int i = 0; i < MOST_TOKENS && good && (is('*') || is('/')); i++) {
                int kind = kinds.at(at);
                good = skip(kind) && value(depth);
                boosts.addStep(kind, 0);
            }
            return good;
        }

        private boolean value(int depth) {
            int kind = kinds.at(at);
            switch (kind) {
                case Tokens.NUMBER:
                    boosts.addStep(kind, tokens.number(tape, at));
                    return skip(kind);
                case Tokens.TYPED:
                case Tokens.TAKEN:
                case Tokens.LIMIT:
                case Tokens.FAR:
                    boosts.addStep(kind, 0);
                    return skip(kind);
                case Tokens.WEIGHT:
                    boosts.addStep(kind, at + 1);
                    return skip(kind) && skip(Tokens.NAME);
                case '-':
                    if (depth >= DEEPEST || !skip(kind) || !value(depth + 1)) {
                        return false;
                    }
                    boosts.addStep(Boosts.TURN, 0);
                    return true;
                case '(':
                    return depth < DEEPEST && skip(kind) && sum(depth + 1) && skip(')');
                case Tokens.MIN:
                case Tokens.MAX:
                    return skip(kind) && ofTwo(kind, depth);
                default:
                    return false;
            }
        }

        private boolean ofTwo(int kind, int depth) {
            if (depth >= DEEPEST || !skip('(') || !sum(depth + 1) || !skip(',')
                    || !sum(depth + 1) || !skip(')')) {
                return false;
            }
            boosts.addStep(kind, 0);
            return true;
        }
    }

    /** Reads a tape into a book, and tells the first error. */
    private static final class Reader {
        private final Tokens tokens = new Tokens();
        private final Row meanings = new Row(MOST_TOKENS + 1);
        private int errorPosition = -1;

        int errorPosition() {
            return errorPosition;
        }

        /** Returns 0, or the error; the book is then of no use. */
        int read(Row tape, Book book) {
            book.clear();
            tokens.read(tape);
            errorPosition = new Grammar(tokens, tape, book.boosts).read();
            if (errorPosition >= 0) {
                return 1;
            }
            meanings.fill(-1);
            for (int token = 0; token < tokens.size(); token++) {
                int error = lookAt(token, tape, book);
                if (error != 0) {
                    errorPosition = tokens.start(token);
                    return error;
                }
            }
            book.boosts.link(meanings);
            return 0;
        }

        private int lookAt(int token, Row tape, Book book) {
            switch (tokens.kind(token)) {
                case Tokens.BOOST:
                    return book.boosts.tags.isFull() ? 4 : 0;
                case Tokens.NUMBER:
                    // Of the numbers only that of a word stands behind weight.
                    return tokens.kind(token - 1) == Tokens.WEIGHT
                            ? weigh(tokens.number(tape, token), book) : 0;
                case Tokens.NAME:
                    return lookAtName(token, tokens.spell(tape, token), book);
                default:
                    return 0;
            }
        }

        private int weigh(int weight, Book book) {
            book.weights.put(book.words.size() - 1, weight);
            return weight > HEAVIEST ? 5 : 0;
        }

        /** What a name has to be is told by the token ahead of it alone. */
        private int lookAtName(int token, Row name, Book book) {
            int tag = book.tags.find(name);
            int word = book.words.find(name);
            switch (tokens.kind(token - 1)) {
                case Tokens.TAG:
                    if (tag >= 0) {
                        return 2;
                    }
                    return book.tags.add(name) < 0 ? 4 : 0;
                case Tokens.WORD:
                    if (word >= 0) {
                        return 2;
                    }
                    return book.addWord(name) < 0 ? 4 : 0;
                case Tokens.OF:
                    book.tagOf.put(book.words.size() - 1, tag);
                    return tag < 0 ? 3 : 0;
                case Tokens.BOOST:
                    book.boosts.tags.add(tag);
                    return tag < 0 ? 3 : 0;
                case Tokens.LAST:
                case Tokens.WEIGHT:
                    meanings.put(token, word);
                    return word < 0 ? 3 : 0;
                case Tokens.BEGINS:
                    meanings.put(token, book.boosts.beginnings.add(name));
                    return 0;
                default:
                    return keyRow(name, book.keys);
            }
        }

        private int keyRow(Row name, Keys keys) {
            if (keys.rows() >= MOST_KEY_ROWS) {
                return 4;
            }
            return keys.addRow(name) ? 0 : 6;
        }
    }

    /** Reckons what the boosts of a tag tell. */
    private static final class Reckoner {
        private final Row stack = new Row(MOST_TOKENS);

        /** What the boosts of a tag whose tests hold tell, added. */
        int boost(Book book, Hand hand, int tag, int far) {
            Boosts boosts = book.boosts;
            int sum = 0;
            for (int i = 0; i < boosts.size(); i++) {
                if (boosts.tags.at(i) == tag) {
                    int told = run(book, hand, far, boosts.sumStarts.at(i), boosts.testStarts.at(i));
                    int holds = run(book, hand, far, boosts.testStarts.at(i), boosts.ends.at(i));
                    sum += holds != 0 ? told : 0;
                }
            }
            return sum;
        }

        private int run(Book book, Hand hand, int far, int from, int to) {
            stack.clear();
            for (int step = from; step < to; step++) {
                int kind = book.boosts.kinds.at(step);
                int value = book.boosts.values.at(step);
                switch (kind) {
                    case Tokens.NUMBER:
                        stack.add(value);
                        break;
                    case Tokens.FAR:
                        stack.add(far);
                        break;
                    case Tokens.WEIGHT:
                        stack.add(book.weights.at(value));
                        break;
                    case Tokens.BEGINS:
                        stack.add(hand.typed.beginsWith(book.boosts.beginnings.at(value)) ? 1 : 0);
                        break;
                    case Tokens.TYPED:
                    case Tokens.TAKEN:
                    case Tokens.LIMIT:
                    case Tokens.LAST:
                        stack.add(ofHand(kind, value, hand));
                        break;
                    case Boosts.TURN:
                        stack.add(-stack.removeLast());
                        break;
                    case Tokens.NOT:
                        stack.add(stack.removeLast() == 0 ? 1 : 0);
                        break;
                    default:
                        stack.add(ofTwo(kind, stack.removeLast(), stack.removeLast()));
                        break;
                }
            }
            return stack.removeLast();
        }

        private static int ofHand(int kind, int value, Hand hand) {
            switch (kind) {
                case Tokens.TYPED:
                    return hand.typed.size();
                case Tokens.TAKEN:
                    return hand.taken;
                case Tokens.LIMIT:
                    return hand.limit;
                default:
                    return hand.latest == value ? 1 : 0;
            }
        }

        private static int ofTwo(int kind, int right, int left) {
            switch (kind) {
                case '+':
                    return left + right;
                case '-':
                    return left - right;
                case '*':
                    return left * right;
                case '/':
                    return right == 0 ? 0 : left / right;
                case Tokens.MIN:
                    return Math.min(left, right);
                case Tokens.MAX:
                    return Math.max(left, right);
                default:
                    return holds(kind, left, right) ? 1 : 0;
            }
        }

        private static boolean holds(int kind, int left, int right) {
            switch (kind) {
                case '<':
                    return left < right;
                case '>':
                    return left > right;
                case '=':
                    return left == right;
                case Tokens.LESS_OR_EQUAL:
                    return left <= right;
                case Tokens.GREATER_OR_EQUAL:
                    return left >= right;
                case Tokens.AND:
                    return left != 0 && right != 0;
                default:
                    return left != 0 || right != 0;
            }
        }
    }

    /** How far each word is, its score, and its place among those that are near. */
    private static final class Ranking {
        private static final int SLIP = 2;
        private static final int GAP = 3;

        private final Row far = new Row(MOST_WORDS);
        private final Row scores = new Row(MOST_WORDS);
        private final Row places = new Row(MOST_WORDS);
        private final Row offers = new Row(OFFERS);
        private final Row costs = new Row(LONGEST_NAME + 1);
        private final Reckoner reckoner = new Reckoner();
        private int nearWords = 0;

        int far(int word) {
            return far.at(word);
        }

        int score(int word) {
            return scores.at(word);
        }

        /** The place among all that are near, or -1. */
        int place(int word) {
            return places.at(word);
        }

        int nearWords() {
            return nearWords;
        }

        /** The word at a place of the offers, or -1. */
        int offered(int place) {
            return offers.at(place);
        }

        boolean isOffered(int word) {
            return places.at(word) >= 0 && places.at(word) < OFFERS;
        }

        void renew(Book book, Hand hand) {
            far.clear();
            scores.clear();
            for (int word = 0; word < book.words.size(); word++) {
                int distance = distance(hand.typed, book.words.at(word), book.keys);
                int boost = reckoner.boost(book, hand, book.tagOf.at(word), distance);
                far.add(distance);
                scores.add(book.weights.at(word) + boost - 10 * distance);
            }
            placeWords(book, hand.limit);
        }

        private void placeWords(Book book, int limit) {
            places.clear();
            offers.fill(-1);
            nearWords = 0;
            for (int word = 0; word < book.words.size(); word++) {
                if (far.at(word) > limit) {
                    places.add(-1);
                } else {
                    int place = wordsAhead(book, word, limit);
                    places.add(place);
                    offers.put(place, word);
                    nearWords++;
                }
            }
        }

        private int wordsAhead(Book book, int word, int limit) {
            int ahead = 0;
            for (int other = 0; other < book.words.size(); other++) {
                boolean greater = scores.at(other) > scores.at(word)
                        || scores.at(other) == scores.at(word) && leadsTie(book, other, word);
                if (other != word && far.at(other) <= limit && greater) {
                    ahead++;
                }
            }
            return ahead;
        }

        /** Whether a word stands ahead of another one whose score is as great. */
        private static boolean leadsTie(Book book, int word, int other) {
            int length = book.words.at(word).size();
            int otherLength = book.words.at(other).size();
            return length < otherLength || length == otherLength && word < other;
        }

        /**
         * The least score that puts a word ahead of all others that are near; it is more than an
         * int can hold if none does.
         */
        long leastScoreToLead(Book book, int word) {
            long least = Integer.MIN_VALUE;
            for (int other = 0; other < book.words.size(); other++) {
                if (other != word && places.at(other) >= 0) {
                    long score = scores.at(other);
                    least = Math.max(least, leadsTie(book, word, other) ? score : score + 1);
                }
            }
            return least;
        }

        /** The least cost of a way from what is typed to a beginning of a word. */
        int distance(Row typed, Row word, Keys keys) {
            costs.clear();
            for (int length = 0; length <= word.size(); length++) {
                costs.add(length * GAP);
            }
            for (int i = 0; i < typed.size(); i++) {
                typeOneMore(typed.at(i), word, keys);
            }
            int least = costs.at(0);
            for (int length = 1; length <= word.size(); length++) {
                least = Math.min(least, costs.at(length));
            }
            return least;
        }

        /** Brings the costs of all beginnings of a word from some typed letters to one more. */
        private void typeOneMore(int letter, Row word, Keys keys) {
            int shorterBefore = costs.at(0);
            costs.put(0, shorterBefore + GAP);
            for (int length = 1; length <= word.size(); length++) {
                int before = costs.at(length);
                int key = word.at(length - 1);
                int cost = Math.min(before, costs.at(length - 1)) + GAP;
                if (key == letter) {
                    cost = Math.min(cost, shorterBefore);
                } else if (keys.areNeighbours(key, letter)) {
                    cost = Math.min(cost, shorterBefore + SLIP);
                }
                costs.put(length, cost);
                shorterBefore = before;
            }
        }
    }
}
