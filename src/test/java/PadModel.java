import java.util.ArrayList;
import java.util.HashMap;
import java.util.HashSet;
import java.util.List;
import java.util.Map;
import java.util.Set;

/**
 * A second reading of the document, made to be unlike the program: a set of stacks instead of a
 * descent looks for error 1, sums and tests are reckoned from their tokens each time, and nothing
 * is kept but what was told. Exceptions are told as the texts "state", "argument", "index".
 */
final class PadModel {
    static final class Refusal extends RuntimeException {
        private static final long serialVersionUID = 1L;

        Refusal(String kind) {
            super(kind);
        }
    }

    private record Token(String text, int start, boolean good) { }

    private record Stack(String top, Stack below) { }

    private record Boost(String tag, List<String> sum, List<String> test) { }

    private static final String KEYWORDS = " tag word weight of keys boost by when typed taken limit far last begins"
            + " not and or min max ";
    /** UP and DOWN are no tokens: the depth is one more, or less, from there on. */
    private static final Map<String, String[]> GRAMMAR = new HashMap<>();

    static {
        rule("List", "", "Line ; List");
        rule("Line", "tag NAME", "word NAME weight NUMBER Of", "keys Names", "boost NAME by Sum when Test");
        rule("Of", "", "of NAME");
        rule("Names", "NAME MoreNames");
        rule("MoreNames", "", ", Names");
        rule("Test", "Both MoreTest");
        rule("MoreTest", "", "or Test");
        rule("Both", "Single MoreBoth");
        rule("MoreBoth", "", "and Both");
        rule("Single", "not UP Single DOWN", "[ UP Test ] DOWN", "last NAME", "begins NAME", "Sum Compared");
        rule("Compared", "< Sum", "> Sum", "= Sum", "<= Sum", ">= Sum");
        rule("Sum", "Product MoreSum");
        rule("MoreSum", "", "+ Sum", "- Sum");
        rule("Product", "Value MoreProduct");
        rule("MoreProduct", "", "* Product", "/ Product");
        rule("Value", "NUMBER", "typed", "taken", "limit", "far", "weight NAME", "- UP Value DOWN",
                "( UP Sum ) DOWN", "min ( UP Sum , Sum ) DOWN", "max ( UP Sum , Sum ) DOWN");
    }

    private static void rule(String name, String... ways) {
        GRAMMAR.put(name, ways);
    }

    private StringBuilder tape = new StringBuilder();
    private List<String> tags = new ArrayList<>();
    private List<String> words = new ArrayList<>();
    private List<Integer> weights = new ArrayList<>();
    private List<Integer> tagOf = new ArrayList<>();
    private List<String> keys = new ArrayList<>();
    private List<Boost> boosts = new ArrayList<>();
    private String typed = "";
    private int taken = 0;
    private int latest = -1;
    private int limit = 4;
    private int errorAt = -1;

    int feed(int... fives) {
        if (tape.length() + 20 > 2000) {
            throw new Refusal("state");
        }
        for (int five : fives) {
            for (int i = 3; i >= 0; i--) {
                tape.append((char) (five >> 8 * i & 255));
            }
        }
        return tape.length();
    }

    int trim(int n) {
        if (n < 0 || n > tape.length()) {
            throw new Refusal("argument");
        }
        tape.setLength(n);
        return n;
    }

    // ---- the language

    private static List<Token> tokens(String text) {
        List<Token> tokens = new ArrayList<>();
        int at = 0;
        while (at < text.length()) {
            char first = text.charAt(at);
            int end = at + 1;
            boolean good = true;
            if (first == ' ' || first == '\n') {
                at++;
                continue;
            } else if (first >= 'a' && first <= 'z') {
                while (end < text.length() && text.substring(end, end + 1).matches("[a-z0-9]")) {
                    end++;
                }
                good = end - at <= 10;
            } else if (first >= '0' && first <= '9') {
                while (end < text.length() && text.substring(end, end + 1).matches("[0-9]")) {
                    end++;
                }
                good = end - at <= 6;
            } else if (text.startsWith("<=", at) || text.startsWith(">=", at)) {
                end = at + 2;
            } else {
                good = "()[];,+-*/<>=".indexOf(first) >= 0;
            }
            tokens.add(new Token(text.substring(at, end), at, good));
            at = end;
        }
        return tokens;
    }

    private static boolean isName(String token) {
        return token.matches("[a-z][a-z0-9]*") && !KEYWORDS.contains(" " + token + " ");
    }

    private static boolean fits(String terminal, String token) {
        return terminal.equals("NAME") ? isName(token)
                : terminal.equals("NUMBER") ? token.matches("[0-9]+") : terminal.equals(token);
    }

    private record State(Stack stack, int depth) { }

    /** All states behind a token; a state with no stack is a list that is whole. */
    private static void step(State state, String token, List<State> next) {
        if (state.stack == null) {
            if (token == null) {
                next.add(state);
            }
            return;
        }
        String top = state.stack.top;
        Stack below = state.stack.below;
        if (top.equals("UP")) {
            if (state.depth < 8) {
                step(new State(below, state.depth + 1), token, next);
            }
        } else if (top.equals("DOWN")) {
            step(new State(below, state.depth - 1), token, next);
        } else if (GRAMMAR.containsKey(top)) {
            for (String way : GRAMMAR.get(top)) {
                Stack stack = below;
                String[] parts = way.isEmpty() ? new String[0] : way.split(" ");
                for (int i = parts.length - 1; i >= 0; i--) {
                    stack = new Stack(parts[i], stack);
                }
                step(new State(stack, state.depth), token, next);
            }
        } else if (token != null && fits(top, token)) {
            // What goes deeper than 8 behind a token is wrong at this token.
            if (below == null || !below.top.equals("UP") || state.depth < 8) {
                next.add(new State(below, state.depth));
            }
        }
    }

    /** The position of error 1, or -1. */
    private static int grammarError(List<Token> tokens, int length) {
        List<State> states = List.of(new State(new Stack("List", null), 0));
        for (int i = 0; i <= tokens.size(); i++) {
            Token token = i < tokens.size() ? tokens.get(i) : null;
            List<State> next = new ArrayList<>();
            if (token == null || token.good && i < 400) {
                Set<State> seen = new HashSet<>(states);
                for (State state : seen) {
                    step(state, token == null ? null : token.text, next);
                }
            }
            if (next.isEmpty()) {
                return token == null ? length : token.start;
            }
            states = next;
        }
        return -1;
    }

    int teach() {
        String text = tape.toString();
        tape.setLength(0);
        List<Token> tokens = tokens(text);
        errorAt = grammarError(tokens, text.length());
        if (errorAt >= 0) {
            return 1;
        }
        PadModel draft = new PadModel();
        for (int i = 0; i < tokens.size(); i++) {
            int error = draft.tell(tokens, i);
            if (error != 0) {
                errorAt = tokens.get(i).start;
                return error;
            }
        }
        tags = draft.tags;
        words = draft.words;
        weights = draft.weights;
        tagOf = draft.tagOf;
        keys = draft.keys;
        boosts = draft.boosts;
        typed = "";
        taken = 0;
        latest = -1;
        return 0;
    }

    private int tell(List<Token> tokens, int at) {
        String token = tokens.get(at).text;
        int start = at;
        while (start > 0 && !tokens.get(start - 1).text.equals(";")) {
            start--;
        }
        String line = tokens.get(start).text;
        String before = at == 0 ? "" : tokens.get(at - 1).text;
        if (token.matches("[0-9]+")) {
            if (line.equals("word")) {
                weights.set(weights.size() - 1, Integer.parseInt(token));
            }
            return line.equals("word") && Integer.parseInt(token) > 9999 ? 5 : 0;
        }
        if (token.equals("boost")) {
            return boosts.size() == 12 ? 4 : 0;
        }
        if (!isName(token)) {
            return 0;
        }
        switch (line) {
            case "tag":
                int wrongTag = tags.contains(token) ? 2 : tags.size() == 6 ? 4 : 0;
                tags.add(token);
                return wrongTag;
            case "keys":
                return row(token);
            case "word":
                if (at > start + 1) {
                    tagOf.set(tagOf.size() - 1, tags.indexOf(token));
                    return tags.contains(token) ? 0 : 3;
                }
                int wrongWord = words.contains(token) ? 2 : words.size() == 40 ? 4 : 0;
                words.add(token);
                weights.add(-1);
                tagOf.add(-1);
                return wrongWord;
            default:
                if (at == start + 1) {
                    addBoost(token, tokens, start);
                    return tags.contains(token) ? 0 : 3;
                }
                return before.equals("begins") || words.contains(token) ? 0 : 3;
        }
    }

    private int row(String name) {
        if (keys.size() == 4) {
            return 4;
        }
        String all = String.join("", keys) + name;
        keys.add(name);
        return all.chars().distinct().count() < all.length() ? 6 : 0;
    }

    private void addBoost(String tag, List<Token> tokens, int start) {
        List<String> all = new ArrayList<>();
        for (int i = start + 3; !tokens.get(i).text.equals(";"); i++) {
            all.add(tokens.get(i).text);
        }
        int when = all.indexOf("when");
        boosts.add(new Boost(tag, all.subList(0, when), all.subList(when + 1, all.size())));
    }

    int errorAt() {
        return errorAt;
    }

    // ---- sums and tests, by the last operator that binds least

    private static int lastOutside(List<String> part, String... signs) {
        int open = 0;
        for (int i = part.size() - 1; i > 0; i--) {
            String token = part.get(i);
            open += ")]".contains(token) ? 1 : "([".contains(token) ? -1 : 0;
            // A - behind another sign is one in front of a value.
            boolean front = "+-*/(,[<=>=".contains(part.get(i - 1));
            if (open == 0 && !front && List.of(signs).contains(token)) {
                return i;
            }
        }
        return -1;
    }

    private boolean test(List<String> part, int far) {
        int at = lastOutside(part, "or");
        if (at > 0) {
            return test(part.subList(0, at), far) | test(part.subList(at + 1, part.size()), far);
        }
        at = lastOutside(part, "and");
        if (at > 0) {
            return test(part.subList(0, at), far) & test(part.subList(at + 1, part.size()), far);
        }
        switch (part.get(0)) {
            case "not":
                return !test(part.subList(1, part.size()), far);
            case "[":
                return test(part.subList(1, part.size() - 1), far);
            case "last":
                return latest >= 0 && words.get(latest).equals(part.get(1));
            case "begins":
                return typed.startsWith(part.get(1));
            default:
                at = lastOutside(part, "<", ">", "=", "<=", ">=");
                int left = sum(part.subList(0, at), far);
                int right = sum(part.subList(at + 1, part.size()), far);
                return compare(part.get(at), left, right);
        }
    }

    private static boolean compare(String sign, int left, int right) {
        return left < right ? sign.startsWith("<") : left > right ? sign.startsWith(">") : sign.endsWith("=");
    }

    private int sum(List<String> part, int far) {
        int at = lastOutside(part, "+", "-");
        if (at < 0) {
            at = lastOutside(part, "*", "/");
        }
        if (at > 0) {
            long left = sum(part.subList(0, at), far);
            long right = sum(part.subList(at + 1, part.size()), far);
            switch (part.get(at)) {
                case "+":
                    return (int) (left + right);
                case "-":
                    return (int) (left - right);
                case "*":
                    return (int) (left * right);
                default:
                    return right == 0 ? 0 : (int) (left / right);
            }
        }
        switch (part.get(0)) {
            case "typed":
                return typed.length();
            case "taken":
                return taken;
            case "limit":
                return limit;
            case "far":
                return far;
            case "weight":
                return weights.get(words.indexOf(part.get(1)));
            case "-":
                return -sum(part.subList(1, part.size()), far);
            case "(":
                return sum(part.subList(1, part.size() - 1), far);
            case "min":
            case "max":
                List<String> inside = part.subList(2, part.size() - 1);
                int comma = lastOutside(inside, ",");
                int left = sum(inside.subList(0, comma), far);
                int right = sum(inside.subList(comma + 1, inside.size()), far);
                return part.get(0).equals("min") == left < right ? left : right;
            default:
                return Integer.parseInt(part.get(0));
        }
    }

    // ---- the pad

    boolean near(int a, int b) {
        for (int r = 0; r < keys.size(); r++) {
            String row = keys.get(r);
            for (int i = 0; i < row.length(); i++) {
                Set<Integer> beside = new HashSet<>();
                if (i + 1 < row.length()) {
                    beside.add((int) row.charAt(i + 1));
                }
                for (int k = i; r > 0 && k <= i + 1; k++) {
                    if (k < keys.get(r - 1).length()) {
                        beside.add((int) keys.get(r - 1).charAt(k));
                    }
                }
                if (row.charAt(i) == a && beside.contains(b) || row.charAt(i) == b && beside.contains(a)) {
                    return true;
                }
            }
        }
        return false;
    }

    /** The least cost to make just the word, from the last letters on. */
    private int cost(String from, String word, Map<Integer, Integer> known) {
        if (from.isEmpty() || word.isEmpty()) {
            return 3 * (from.length() + word.length());
        }
        int key = from.length() * 100 + word.length();
        if (known.containsKey(key)) {
            return known.get(key);
        }
        char a = from.charAt(from.length() - 1);
        char b = word.charAt(word.length() - 1);
        String shorter = from.substring(0, from.length() - 1);
        String shorterWord = word.substring(0, word.length() - 1);
        int least = 3 + Math.min(cost(shorter, word, known), cost(from, shorterWord, known));
        if (a == b || near(a, b)) {
            least = Math.min(least, (a == b ? 0 : 2) + cost(shorter, shorterWord, known));
        }
        known.put(key, least);
        return least;
    }

    private int far(String from, String word) {
        Map<Integer, Integer> known = new HashMap<>();
        int least = Integer.MAX_VALUE;
        for (int length = 0; length <= word.length(); length++) {
            least = Math.min(least, cost(from, word.substring(0, length), known));
        }
        return least;
    }

    private int score(int word) {
        int far = far(typed, words.get(word));
        int score = weights.get(word) - 10 * far;
        for (Boost boost : boosts) {
            if (tagOf.get(word) >= 0 && tags.get(tagOf.get(word)).equals(boost.tag) && test(boost.test, far)) {
                score += sum(boost.sum, far);
            }
        }
        return score;
    }

    private List<Integer> row() {
        int[] scores = new int[words.size()];
        List<Integer> row = new ArrayList<>();
        for (int word = 0; word < words.size(); word++) {
            scores[word] = score(word);
            if (far(typed, words.get(word)) <= limit) {
                row.add(word);
            }
        }
        row.sort((a, b) -> scores[a] != scores[b] ? Integer.compare(scores[b], scores[a])
                : words.get(a).length() != words.get(b).length()
                        ? words.get(a).length() - words.get(b).length() : a - b);
        return row;
    }

    int count(int what) {
        switch (what) {
            case 0:
                return words.size();
            case 1:
                return tags.size();
            case 2:
                return keys.size();
            case 3:
                return boosts.size();
            case 4:
                return typed.length();
            case 5:
                return taken;
            case 6:
                return limit;
            case 7:
                return weights.stream().mapToInt(w -> w).sum();
            case 8:
                return row().size();
            case 9:
                return (int) words.stream().filter(w -> w.startsWith(typed)).count();
            case 10:
                Set<String> nodes = new HashSet<>(Set.of(""));
                for (String word : words) {
                    for (int length = 1; length <= word.length(); length++) {
                        nodes.add(word.substring(0, length));
                    }
                }
                return nodes.size();
            case 11:
                return latest;
            case 12:
                return tape.length();
            default:
                throw new Refusal("index");
        }
    }

    int type(int letter) {
        if (letter < 97 || letter > 122) {
            throw new Refusal("argument");
        }
        if (typed.length() == 20) {
            throw new Refusal("state");
        }
        typed += (char) letter;
        return typed.length();
    }

    int back() {
        if (typed.isEmpty()) {
            throw new Refusal("state");
        }
        char letter = typed.charAt(typed.length() - 1);
        typed = typed.substring(0, typed.length() - 1);
        return letter;
    }

    int take(int place) {
        int word = offer(place);
        if (word < 0) {
            throw new Refusal("state");
        }
        return taking(word);
    }

    private int taking(int word) {
        weights.set(word, Math.min(9999, weights.get(word) + 5));
        taken++;
        latest = word;
        typed = "";
        if (taken % 8 == 0) {
            weights.replaceAll(w -> w - w / 8);
        }
        return word;
    }

    int say() {
        int word = words.indexOf(typed);
        if (typed.isEmpty() || typed.length() > 10 || word < 0 && words.size() == 40) {
            throw new Refusal("state");
        }
        if (word < 0) {
            word = words.size();
            words.add(typed);
            weights.add(1);
            tagOf.add(-1);
        }
        return taking(word);
    }

    int setLimit(int newLimit) {
        if (newLimit < 0 || newLimit > 9) {
            throw new Refusal("argument");
        }
        int before = limit;
        limit = newLimit;
        return before;
    }

    int offer(int place) {
        if (place < 0 || place > 4) {
            throw new Refusal("index");
        }
        List<Integer> row = row();
        return place < row.size() ? row.get(place) : -1;
    }

    private void look(int word) {
        if (word < 0 || word >= words.size()) {
            throw new Refusal("index");
        }
    }

    int word(int word, int what) {
        look(word);
        switch (what) {
            case 0:
                return weights.get(word);
            case 1:
                return tagOf.get(word);
            case 2:
                return words.get(word).length();
            case 3:
                return far(typed, words.get(word));
            case 4:
                return score(word);
            case 5:
                return row().indexOf(word);
            default:
                throw new Refusal("index");
        }
    }

    int letter(int word, int index) {
        look(word);
        if (index < 0 || index >= words.get(word).length()) {
            throw new Refusal("index");
        }
        return words.get(word).charAt(index);
    }

    int best() {
        int best = -1;
        int most = -1;
        for (char letter = 'a'; letter <= 'z'; letter++) {
            int sum = 0;
            boolean found = false;
            for (int word = 0; word < words.size(); word++) {
                if (words.get(word).startsWith(typed + letter)) {
                    found = true;
                    sum += weights.get(word);
                }
            }
            if (found && sum > most) {
                most = sum;
                best = letter;
            }
        }
        return best;
    }

    int strokes(int word) {
        look(word);
        String before = typed;
        try {
            for (int strokes = 0; strokes <= words.get(word).length(); strokes++) {
                typed = words.get(word).substring(0, strokes);
                if (!typed.matches("[a-z]*")) {
                    return -1;
                }
                int place = row().indexOf(word);
                if (place >= 0 && place < 5) {
                    return strokes + 1;
                }
            }
            return words.get(word).length() + 1;
        } finally {
            typed = before;
        }
    }

    /** Tries each weight; the score moves by as much, and wraps. */
    int needs(int word) {
        look(word);
        List<Integer> row = row();
        if (!row.contains(word)) {
            return -1;
        }
        int base = score(word) - weights.get(word);
        int[] scores = new int[words.size()];
        for (int other : row) {
            scores[other] = score(other);
        }
        for (int weight = 0; weight <= 9999; weight++) {
            boolean leads = true;
            int mine = base + weight;
            for (int other : row) {
                int length = Integer.compare(words.get(word).length(), words.get(other).length());
                boolean ahead = mine > scores[other]
                        || mine == scores[other] && (length < 0 || length == 0 && word < other);
                leads &= other == word || ahead;
            }
            if (leads) {
                return weight;
            }
        }
        return -1;
    }

    int closest(int word) {
        look(word);
        int least = -1;
        for (int other = 0; other < words.size(); other++) {
            if (other != word) {
                int far = far(words.get(word), words.get(other));
                least = least < 0 || far < least ? far : least;
            }
        }
        return least;
    }

    double mean() {
        return words.isEmpty() ? 0 : (double) count(7) / words.size();
    }

    long digest() {
        List<Integer> told = new ArrayList<>();
        for (int what = 0; what < 13; what++) {
            told.add(count(what));
        }
        typed.chars().forEach(told::add);
        for (int word = 0; word < words.size(); word++) {
            for (int what = 0; what < 6; what++) {
                told.add(word(word, what));
            }
            words.get(word).chars().forEach(told::add);
        }
        List<Integer> row = row();
        for (int place = 0; place < 5; place++) {
            told.add(place < row.size() ? row.get(place) : -1);
        }
        long d = 773;
        for (int x : told) {
            d = d * 31 + x;
        }
        return d;
    }
}
