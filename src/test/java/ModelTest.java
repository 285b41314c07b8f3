import java.nio.charset.StandardCharsets;
import java.util.Random;

/**
 * All promises: runs of calls with a fixed seed, on a pad and on a PadModel. It also looks that the
 * runs reach what they are for: each error, and each kind of refusal.
 */
public final class ModelTest {
    private static final int RUNS = 120;
    private static final int CALLS = 512;
    private static final String[] NAMES = {"t", "u", "food", "names", "a", "ab", "abc", "b2", "qw", "was", "saw",
        "we", "zebra", "tree", "trie", "try", "w1x", "abcdefghij", "tr1e", "tags", "a1", "x"};
    private static final Probe PROBE = new Probe();
    private static final int[] ERRORS = new int[7];
    private static int refusals = 0;

    private final Random random;
    private final int run;
    private final WordPad pad = new WordPad();
    private final PadModel model = new PadModel();
    private int depth = 0;
    private int done = 0;

    private ModelTest(int run) {
        this.run = run;
        this.random = new Random(run * 7919L + 17);
    }

    private interface Call {
        long answer();
    }

    public static void main(String[] args) {
        int runs = args.length > 0 ? Integer.parseInt(args[0]) : RUNS;
        for (int run = 0; run < runs; run++) {
            new ModelTest(run).go();
        }
        for (int error = 0; error < ERRORS.length; error++) {
            PROBE.holds("error " + error + " is reached", ERRORS[error] > 0);
        }
        PROBE.holds("refusals are reached", refusals > 100);
        PROBE.end();
    }

    private void go() {
        teach(list());
        // A call of near is looked at with two pairs.
        while (done < CALLS - 1) {
            int kind = random.nextInt(100);
            if (kind < 2) {
                teach(random.nextInt(4) == 0 ? spoiled(list()) : list());
            } else if (kind < 3) {
                teach(spoiled(list()));
            } else {
                call(kind);
            }
        }
        PROBE.holds("so few calls as an object is used for", done <= CALLS);
    }

    /** Feeds and teaches a text, if there are calls enough left for it. */
    private void teach(String text) {
        byte[] bytes = text.getBytes(StandardCharsets.ISO_8859_1);
        if (done + (bytes.length + 19) / 20 + 4 > CALLS) {
            return;
        }
        for (int from = 0; from < bytes.length; from += 20) {
            int[] fives = new int[5];
            for (int i = 0; i < 20; i++) {
                fives[i / 4] = fives[i / 4] << 8 | (from + i < bytes.length ? bytes[from + i] & 255 : 32);
            }
            same("feed", () -> pad.feed(fives[0], fives[1], fives[2], fives[3], fives[4]), () -> model.feed(fives));
        }
        same("trim", () -> pad.trim(bytes.length), () -> model.trim(bytes.length));
        int error = (int) same("teach <<" + text + ">>", () -> pad.teach(), () -> model.teach());
        ERRORS[Math.max(0, error)]++;
        same("errorAt", () -> pad.errorAt(), () -> model.errorAt());
        same("digest", () -> pad.digest(), () -> model.digest());
    }

    private void call(int kind) {
        int a = number();
        int b = number();
        int word = random.nextInt(20) == 0 ? a : random.nextInt(Math.max(1, model.count(0)));
        int letter = random.nextInt(30) == 0 ? 90 + random.nextInt(40) : letter();
        if (kind < 45) {
            same("type " + letter, () -> pad.type(letter), () -> model.type(letter));
        } else if (kind < 52) {
            same("back", () -> pad.back(), () -> model.back());
        } else if (kind < 57) {
            int place = random.nextInt(8) - 1;
            same("take " + place, () -> pad.take(place), () -> model.take(place));
        } else if (kind < 61) {
            same("say", () -> pad.say(), () -> model.say());
        } else if (kind < 64) {
            int limit = random.nextInt(13) - 1;
            same("setLimit " + limit, () -> pad.setLimit(limit), () -> model.setLimit(limit));
        } else if (kind < 67) {
            int what = random.nextInt(16) - 1;
            same("count " + what, () -> pad.count(what), () -> model.count(what));
        } else if (kind < 71) {
            int place = random.nextInt(8) - 1;
            same("offer " + place, () -> pad.offer(place), () -> model.offer(place));
        } else if (kind < 76) {
            int what = random.nextInt(8) - 1;
            same("word " + word + " " + what, () -> pad.word(word, what), () -> model.word(word, what));
        } else if (kind < 78) {
            same("letter " + word + " " + b, () -> pad.letter(word, b), () -> model.letter(word, b));
        } else if (kind < 81) {
            same("near " + a + " " + b, () -> pad.near(a, b) ? 1 : 0, () -> model.near(a, b) ? 1 : 0);
            same("near", () -> pad.near(letter, b) ? 1 : 0, () -> model.near(letter, b) ? 1 : 0);
        } else {
            wouldBe(kind, word, a);
        }
    }

    private void wouldBe(int kind, int word, int n) {
        if (kind < 84) {
            same("best", () -> pad.best(), () -> model.best());
        } else if (kind < 87) {
            same("strokes " + word, () -> pad.strokes(word), () -> model.strokes(word));
        } else if (kind < 91) {
            same("needs " + word, () -> pad.needs(word), () -> model.needs(word));
        } else if (kind < 94) {
            same("closest " + word, () -> pad.closest(word), () -> model.closest(word));
        } else if (kind < 95) {
            same("mean", () -> Double.doubleToLongBits(pad.mean()), () -> Double.doubleToLongBits(model.mean()));
        } else if (kind < 96) {
            same("trim " + n, () -> pad.trim(n), () -> model.trim(n));
        } else {
            same("digest", () -> pad.digest(), () -> model.digest());
        }
    }

    private int number() {
        int[] wild = {-1, Integer.MIN_VALUE, Integer.MAX_VALUE, 127, 128, 255, 256, 40};
        return random.nextInt(6) == 0 ? wild[random.nextInt(wild.length)] : random.nextInt(10) == 0
                ? random.nextInt() : random.nextInt(2) == 0 ? random.nextInt(12) : letter();
    }

    private int letter() {
        String often = "abtrewqsx";
        return random.nextInt(4) == 0 ? 'a' + random.nextInt(26) : often.charAt(random.nextInt(often.length()));
    }

    private long same(String name, Call got, Call want) {
        String mine;
        String due;
        long answer = -1;
        done++;
        try {
            answer = got.answer();
            mine = "" + answer;
        } catch (IndexOutOfBoundsException e) {
            mine = e.getClass() == IndexOutOfBoundsException.class ? "index" : e.toString();
        } catch (IllegalArgumentException e) {
            mine = e.getClass() == IllegalArgumentException.class ? "argument" : e.toString();
        } catch (IllegalStateException e) {
            mine = "state";
        } catch (RuntimeException e) {
            mine = e.toString();
        }
        try {
            due = "" + want.answer();
        } catch (PadModel.Refusal e) {
            due = e.getMessage();
            refusals++;
        }
        PROBE.holds("run " + run + ": " + name + " answered " + mine + ", due is " + due + "; that", mine.equals(due));
        return answer;
    }

    // ---- lists

    private String name() {
        if (random.nextInt(3) > 0) {
            return NAMES[random.nextInt(NAMES.length)];
        }
        StringBuilder name = new StringBuilder();
        int length = 1 + random.nextInt(random.nextInt(4) == 0 ? 10 : 4);
        for (int i = 0; i < length; i++) {
            name.append(i > 0 && random.nextInt(12) == 0 ? (char) ('0' + random.nextInt(10)) : (char) letter());
        }
        return name.toString();
    }

    private String list() {
        StringBuilder list = new StringBuilder();
        depth = 0;
        int tags = random.nextInt(random.nextInt(20) == 0 ? 9 : 4);
        int words = random.nextInt(random.nextInt(6) == 0 ? 45 : 14);
        String[] toldTags = new String[tags];
        String[] toldWords = new String[words];
        boolean careful = random.nextInt(5) > 0;
        if (random.nextInt(4) > 0) {
            list.append(keys(careful));
        }
        for (int i = 0; i < tags; i++) {
            toldTags[i] = fresh(toldTags, i, careful);
            list.append("tag ").append(toldTags[i]).append(";");
        }
        int most = random.nextInt(3) == 0 ? 10 : random.nextInt(2) == 0 ? 100 : 9999;
        for (int i = 0; i < words; i++) {
            toldWords[i] = fresh(toldWords, i, careful);
            int weight = random.nextInt(400) == 0 ? 10000 + random.nextInt(3) : random.nextInt(most + 1);
            list.append("word ").append(toldWords[i]).append(" weight ").append(weight);
            if (tags > 0 && random.nextInt(3) > 0) {
                list.append(" of ").append(toldTags[random.nextInt(tags)]);
            }
            list.append(random.nextInt(5) == 0 ? " ;\n" : ";");
        }
        int boosts = tags == 0 ? 0 : random.nextInt(random.nextInt(15) == 0 ? 15 : 6);
        for (int i = 0; i < boosts; i++) {
            list.append("boost ").append(toldTags[random.nextInt(tags)]).append(" by ").append(sum(toldWords))
                    .append(" when ").append(test(toldWords)).append(";");
        }
        return list.length() > 2000 ? list.substring(0, 2000) : list.toString();
    }

    private String fresh(String[] told, int size, boolean careful) {
        for (int tries = 0; tries < 50; tries++) {
            String name = name();
            boolean good = true;
            for (int i = 0; i < size && careful; i++) {
                good &= !told[i].equals(name);
            }
            boolean keyword = " of by or and not min max far tag ".contains(" " + name + " ");
            if (good && !keyword) {
                return name;
            }
        }
        return "z" + size;
    }

    private String keys(boolean careful) {
        String[] usual = {"qwertyuiop, asdfghjkl, zxcvbnm", "abt, rew, qsx", "abcdefghij,a1", "qw, as; keys e1t2, b"};
        if (careful && random.nextInt(2) == 0) {
            return "keys " + usual[random.nextInt(usual.length)] + ";";
        }
        StringBuilder all = new StringBuilder("abcdefghijklmnopqrstuvwxyz0123456789");
        StringBuilder keys = new StringBuilder("keys ");
        int rows = 1 + random.nextInt(careful ? 4 : 5);
        for (int r = 0; r < rows; r++) {
            keys.append(r > 0 ? "," : "");
            int length = 1 + random.nextInt(9);
            for (int i = 0; i < length && all.length() > 0; i++) {
                int at = random.nextInt(i == 0 ? 1 : all.length());
                keys.append(all.charAt(at));
                if (careful || random.nextInt(20) > 0) {
                    all.deleteCharAt(at);
                }
            }
        }
        return keys.append(";").toString();
    }

    private String known(String[] words) {
        return words.length == 0 || random.nextInt(60) == 0 ? name() : words[random.nextInt(words.length)];
    }

    private boolean deeper() {
        return depth < 3 || random.nextInt(200) == 0;
    }

    private String sum(String[] words) {
        StringBuilder sum = new StringBuilder(product(words));
        while (random.nextInt(4) == 0) {
            sum.append(random.nextBoolean() ? " + " : "-").append(product(words));
        }
        return sum.toString();
    }

    private String product(String[] words) {
        StringBuilder product = new StringBuilder(value(words));
        while (random.nextInt(4) == 0) {
            product.append(random.nextBoolean() ? "*" : " / ").append(value(words));
        }
        return product.toString();
    }

    private String value(String[] words) {
        String[] plain = {"typed", "taken", "limit", "far", "2147483647 / 0", "999999*999999", "65536*32768", "1", "0"};
        int kind = random.nextInt(14);
        if (kind < 4 || !deeper()) {
            return kind % 4 == 0 ? plain[random.nextInt(plain.length)].replace("2147483647", "214748")
                    : "" + random.nextInt(kind % 4 == 1 ? 100000 : 50);
        }
        depth++;
        String value;
        if (kind < 7) {
            value = words.length == 0 ? "far" : "weight " + known(words);
        } else if (kind < 9) {
            value = "-" + value(words);
        } else if (kind < 11) {
            value = "(" + sum(words) + ")";
        } else if (kind < 12) {
            value = (random.nextBoolean() ? "min" : "max ") + "(" + sum(words) + "," + sum(words) + ")";
        } else {
            value = plain[random.nextInt(4)];
        }
        depth--;
        return value;
    }

    private String test(String[] words) {
        StringBuilder test = new StringBuilder(single(words));
        while (random.nextInt(3) == 0) {
            test.append(random.nextBoolean() ? " and " : " or ").append(single(words));
        }
        return test.toString();
    }

    private String single(String[] words) {
        String[] signs = {"<", ">", "=", " <= ", ">="};
        int kind = random.nextInt(10);
        if (kind < 5 || !deeper()) {
            return sum(words) + signs[random.nextInt(5)] + sum(words);
        }
        depth++;
        String single;
        if (kind < 6) {
            single = "not " + single(words);
        } else if (kind < 7) {
            single = "[" + test(words) + "]";
        } else if (kind < 8) {
            single = words.length == 0 ? "begins a" : "last " + known(words);
        } else {
            single = "begins " + (random.nextBoolean() ? (char) letter() : name());
        }
        depth--;
        return single;
    }

    /** A list with a fault, or what looks like one. */
    private String spoiled(String list) {
        String[] parts = {"-", "(", ")", "[", "]", ";", ",", "<", "=", " ", "not ", "min", "tag ", "a", "7", "#", "\t",
            "\u00ff", "A", " weight ", " of ", "boost ", "((((((((", "--------", "not not not not not ", "999999"};
        StringBuilder text = new StringBuilder(list);
        int faults = 1 + random.nextInt(2);
        for (int i = 0; i < faults; i++) {
            int at = random.nextInt(text.length() + 1);
            switch (random.nextInt(4)) {
                case 0:
                    text.delete(at, Math.min(text.length(), at + 1 + random.nextInt(3)));
                    break;
                case 1:
                    text.setLength(at);
                    break;
                default:
                    text.insert(at, parts[random.nextInt(parts.length)]);
                    break;
            }
        }
        return text.length() > 2000 ? text.substring(0, 2000) : text.toString();
    }
}
