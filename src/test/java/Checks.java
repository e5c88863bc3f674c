import java.util.NoSuchElementException;

/** What the tests share: telling texts, and counting answers that are not due. */
final class Checks {
    static final int THROWN = -777;

    private int wrong;
    private int asked;

    void due(String call, long got, long want) {
        asked++;
        if (got != want) {
            wrong++;
            System.out.println(call + " answered " + got + ", due is " + want);
        }
    }

    void due(String call, boolean got, boolean want) {
        due(call, got ? 1 : 0, want ? 1 : 0);
    }

    void end() {
        System.out.println(asked + " answers, " + wrong + " wrong");
        if (wrong != 0) {
            System.exit(1);
        }
    }

    /** Feeds a text behind what the tape has; the answer of the last feed (of none: -5). */
    static int feed(SaltArmy x, String text) {
        int answer = -5;
        for (int from = 0; from < text.length(); from += 20) {
            int[] words = new int[5];
            for (int i = 0; i < 20 && from + i < text.length(); i++) {
                words[i / 4] |= (text.charAt(from + i) & 255) << 24 - i % 4 * 8;
            }
            answer = x.feed(words[0], words[1], words[2], words[3], words[4]);
        }
        return answer;
    }

    static int fault(SaltArmy x, int sort, String text) {
        x.end(0);
        feed(x, text);
        return x.fault(sort);
    }

    static int text(SaltArmy x, int sort, String text) {
        x.end(0);
        feed(x, text);
        return x.text(sort);
    }

    static SaltArmy land(String text) {
        SaltArmy x = new SaltArmy();
        if (text(x, 0, text) < 1) {
            throw new IllegalArgumentException("no land: " + text);
        }
        return x;
    }

    static SaltArmy landWithLaw(String land, String law) {
        SaltArmy x = land(land);
        if (text(x, 1, law) != 0 || !x.law(0)) {
            throw new IllegalArgumentException("no law: " + law);
        }
        return x;
    }

    /** THROWN, where the call throws what the document names. */
    static int company(SaltArmy x, int company, int what) {
        try {
            return x.company(company, what);
        } catch (NoSuchElementException e) {
            return THROWN;
        }
    }
}
