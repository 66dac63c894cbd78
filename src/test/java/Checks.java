import java.util.NoSuchElementException;

/** What the project's tests share: comparing answers and telling texts byte by byte. */
final class Checks {
    static final int NONE = GrainShift.NONE;
    static final int HIDDEN = GrainShift.HIDDEN;
    static final int STUFF = 0;
    static final int SHIP = 1;
    static final int PLAN = 2;
    static final int RULE = 3;
    /** Stands for the NoSuchElementException of stuff() where answers are compared as numbers. */
    static final int THROWN = Integer.MIN_VALUE;

    private int wrong = 0;
    private int looked = 0;
    private String held = "";

    /** Words of a part of "Terms" that the checks behind this hold the class to; SentencesTest looks them up. */
    void part(int part, String words) {
        held = "part " + part + ", '" + words + "': ";
    }

    /** Words of a promise, likewise. */
    void promise(int promise, String words) {
        held = "promise " + promise + ", '" + words + "': ";
    }

    private void tellWrong(String what) {
        wrong++;
        System.out.println(held + what);
    }

    void same(String call, long got, long want) {
        looked++;
        if (got != want) {
            tellWrong(call + " answered " + got + ", due is " + want);
        }
    }

    void differ(String call, long got, long other) {
        looked++;
        if (got == other) {
            tellWrong(call + " answered " + got + ", due is another");
        }
    }

    void yes(String call, boolean got) {
        same(call, got ? 1 : 0, 1);
    }

    void no(String call, boolean got) {
        same(call, got ? 1 : 0, 0);
    }

    void fault(int sort, String text, int want) {
        GrainShift x = new GrainShift();
        put(x, text);
        same("fault(" + sort + ") of '" + text + "'", x.fault(sort), want);
        same("text(" + sort + ") of '" + text + "'", x.text(sort), want == NONE ? 0 : NONE);
        same("count(3) behind text of '" + text + "'", x.count(3), want == NONE ? 0 : text.length());
    }

    void sound(int sort, String text) {
        fault(sort, text, NONE);
    }

    /** A text is right and would go on: so would no sign that it doesn't know, wherever that stands. */
    void faultAtEachStrangeSign(int sort, String text) {
        sound(sort, text);
        for (int at = 0; at <= text.length(); at++) {
            fault(sort, text.substring(0, at) + (char) 255 + text.substring(at), at);
        }
    }

    void finish() {
        System.out.println(wrong == 0 ? looked + " answers are as due" : wrong + " answers are not as due");
        if (wrong != 0) {
            System.exit(1);
        }
    }

    static int word(String text, int from) {
        int word = 0;
        for (int k = from; k < from + 4; k++) {
            word = word << 8 | (k < text.length() ? text.charAt(k) & 255 : 0);
        }
        return word;
    }

    static int feed(GrainShift x, String part) {
        return x.feed(word(part, 0), word(part, 4), word(part, 8), word(part, 12), word(part, 16));
    }

    /** The tape is this text alone. */
    static void put(GrainShift x, String text) {
        x.end(0);
        for (int k = 0; k < text.length(); k += 20) {
            feed(x, text.substring(k, Math.min(text.length(), k + 20)));
        }
    }

    static int tell(GrainShift x, int sort, String text) {
        put(x, text);
        return x.text(sort);
    }

    static int stuffOrThrown(GrainShift x, int stuff, int what) {
        try {
            return x.stuff(stuff, what);
        } catch (NoSuchElementException e) {
            return THROWN;
        }
    }

    /** A ship loaded by seed 0: the stuff, the ship and the plan as texts. */
    static GrainShift loaded(String stuff, String ship, String plan) {
        GrainShift x = new GrainShift();
        tell(x, STUFF, stuff);
        tell(x, SHIP, ship);
        tell(x, PLAN, plan);
        x.load(0, 0, 0L);
        return x;
    }

    /** No grain: LEAN is 10 times BALLAST by STIFF, whatever she does. */
    static GrainShift calm() {
        return loaded("r20", "c2,h10", "f0");
    }

    /** Calm, but behind a roll that lost her. */
    static GrainShift lost() {
        GrainShift x = calm();
        x.set(0, 1);
        x.set(1, 99);
        x.roll(0);
        return x;
    }

    static void days(GrainShift x, int n) {
        for (int k = 0; k < n; k++) {
            x.day(0);
        }
    }

    /** UNITS of all columns of a hold, as one text. */
    static String row(GrainShift x, int hold) {
        StringBuilder out = new StringBuilder();
        for (int i = 0; x.column(hold, i, 0) != NONE; i++) {
            out.append(i == 0 ? "" : " ").append(x.column(hold, i, 0));
        }
        return out.toString();
    }

    void row(String what, GrainShift x, int hold, String want) {
        looked++;
        String got = row(x, hold);
        if (!got.equals(want)) {
            tellWrong(what + ": hold " + hold + " has " + got + ", due is " + want);
        }
    }
}
