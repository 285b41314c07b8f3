import java.nio.charset.StandardCharsets;
import java.util.Arrays;

/** What the tests share: feeding texts, and telling the answers that are not due. */
final class Probe {
    private static final int STEP = 20;
    private int wrong = 0;

    /** A pad that was taught a list without errors. */
    WordPad taught(String list) {
        WordPad pad = new WordPad();
        teach(pad, list, 0, -1);
        return pad;
    }

    /** Teaches a list and looks at the error and its position. */
    void teach(WordPad pad, String list, int error, int position) {
        write(pad, list);
        due("teach of " + list, pad.teach(), error);
        due("errorAt of " + list, pad.errorAt(), position);
        due("tape behind teach of " + list, pad.count(12), 0);
    }

    /** A list that is wrong, taught to a new pad and to one that knows something. */
    void wrongList(String list, int error, int position) {
        teach(new WordPad(), list, error, position);
        WordPad pad = taught("keys qwe; tag t; word old weight 7 of t; boost t by 3 when typed >= 0;");
        type(pad, "ol");
        long[] before = state(pad);
        teach(pad, list, error, position);
        due("errorAt after the wrong " + list, pad.errorAt(), position);
        holds("all stays behind the wrong " + list, Arrays.equals(state(pad), before));
    }

    /** A list that is wrong at the token, or the end, that stands behind the ^. */
    void wrongAt(String marked, int error) {
        int position = marked.indexOf('^');
        wrongList(marked.substring(0, position) + marked.substring(position + 1), error, position);
    }

    /** Appends a text to a tape, whose length may be any. */
    static void write(WordPad pad, String text) {
        byte[] bytes = text.getBytes(StandardCharsets.ISO_8859_1);
        int end = pad.count(12) + bytes.length;
        for (int from = 0; from < bytes.length; from += STEP) {
            int[] fives = new int[5];
            for (int i = 0; i < STEP; i++) {
                int sign = from + i < bytes.length ? bytes[from + i] & 255 : 0;
                fives[i / 4] = fives[i / 4] << 8 | sign;
            }
            pad.feed(fives[0], fives[1], fives[2], fives[3], fives[4]);
        }
        pad.trim(end);
    }

    static void type(WordPad pad, String letters) {
        for (int i = 0; i < letters.length(); i++) {
            pad.type(letters.charAt(i));
        }
    }

    /** Types a text and says it. */
    static int say(WordPad pad, String letters) {
        type(pad, letters);
        return pad.say();
    }

    /** Looks at one figure of the pad after the other, from count(0) on. */
    void figures(String when, WordPad pad, int... figures) {
        for (int what = 0; what < figures.length; what++) {
            due(when + ": count(" + what + ")", pad.count(what), figures[what]);
        }
    }

    /** Looks at one figure of a word after the other, from word(word, 0) on. */
    void wordFigures(String when, WordPad pad, int word, int... figures) {
        for (int what = 0; what < figures.length; what++) {
            due(when + ": word(" + word + ", " + what + ")", pad.word(word, what), figures[what]);
        }
    }

    void due(String call, long got, long want) {
        if (got != want) {
            tell(call + " answered " + got + ", due is " + want);
        }
    }

    void dueDouble(String call, double got, double want) {
        if (Double.compare(got, want) != 0) {
            tell(call + " answered " + got + ", due is " + want);
        }
    }

    void holds(String call, boolean got) {
        if (!got) {
            tell(call + " does not hold");
        }
    }

    /** What a pad answers to calls that change nothing, but for errorAt. */
    private static long[] state(WordPad pad) {
        int words = pad.count(0);
        return new long[] {pad.digest(), pad.best(), Double.doubleToLongBits(pad.mean()),
            words == 0 ? -2 : pad.strokes(words - 1), words == 0 ? -2 : pad.needs(words - 1),
            words == 0 ? -2 : pad.closest(words - 1), pad.near('a', 'b') ? 1 : 0, pad.near('q', 'w') ? 1 : 0};
    }

    /** Looks that a call throws just this, and that it changes nothing. */
    void refuses(String call, WordPad pad, Class<?> kind, Runnable action) {
        long[] before = state(pad);
        int errorBefore = pad.errorAt();
        Class<?> thrown = null;
        try {
            action.run();
        } catch (RuntimeException e) {
            thrown = e.getClass();
        }
        if (thrown != kind) {
            tell(call + " threw " + thrown + ", due is " + kind);
        }
        holds("all stays behind " + call, Arrays.equals(state(pad), before));
        due("errorAt after " + call, pad.errorAt(), errorBefore);
    }

    void refusesIndex(String call, WordPad pad, Runnable action) {
        refuses(call, pad, IndexOutOfBoundsException.class, action);
    }

    void refusesArgument(String call, WordPad pad, Runnable action) {
        refuses(call, pad, IllegalArgumentException.class, action);
    }

    void refusesState(String call, WordPad pad, Runnable action) {
        refuses(call, pad, IllegalStateException.class, action);
    }

    void offers(String when, WordPad pad, int... words) {
        for (int place = 0; place < 5; place++) {
            due(when + ": offer(" + place + ")", pad.offer(place), place < words.length ? words[place] : -1);
        }
    }

    private void tell(String fault) {
        wrong++;
        System.out.println(fault);
    }

    void end() {
        System.out.println(wrong == 0 ? "all answers are as due" : wrong + " answers are not as due");
        if (wrong != 0) {
            System.exit(1);
        }
    }
}
