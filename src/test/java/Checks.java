/** What the project's tests share: comparing answers and telling texts byte by byte. */
final class Checks {
    static final int NONE = GrainShift.NONE;
    static final int HIDDEN = GrainShift.HIDDEN;
    static final int STUFF = 0;
    static final int SHIP = 1;
    static final int PLAN = 2;
    static final int RULE = 3;

    private int wrong = 0;
    private int looked = 0;

    void same(String call, long got, long want) {
        looked++;
        if (got != want) {
            wrong++;
            System.out.println(call + " answered " + got + ", due is " + want);
        }
    }

    void yes(String call, boolean got) {
        same(call, got ? 1 : 0, 1);
    }

    void no(String call, boolean got) {
        same(call, got ? 1 : 0, 0);
    }

    void fault(int sort, String text, int want) {
        GrainShift x = new GrainShift();
        put(x, text);
        same("fault(" + sort + ") of '" + text + "'", x.fault(sort), want);
        same("text(" + sort + ") of '" + text + "'", x.text(sort), want == NONE ? 0 : NONE);
        same("count(3) behind text of '" + text + "'", x.count(3), want == NONE ? 0 : text.length());
    }

    void finish() {
        System.out.println(wrong == 0 ? looked + " answers are as due" : wrong + " answers are not as due");
        if (wrong != 0) {
            System.exit(1);
        }
    }

    static int word(String text, int from) {
        int word = 0;
        for (int k = from; k < from + 4; k++) {
            word = word << 8 | (k < text.length() ? text.charAt(k) & 255 : 0);
        }
        return word;
    }

    /** The tape is this text alone. */
    static void put(GrainShift x, String text) {
        x.end(0);
        for (int k = 0; k < text.length(); k += 20) {
            String part = text.substring(k, Math.min(text.length(), k + 20));
            x.feed(word(part, 0), word(part, 4), word(part, 8), word(part, 12), word(part, 16));
        }
    }

    static int tell(GrainShift x, int sort, String text) {
        put(x, text);
        return x.text(sort);
    }

    /** A ship of one hold, loaded: the stuff, the ship and the plan as texts. */
    static GrainShift loaded(String stuff, String ship, String plan) {
        GrainShift x = new GrainShift();
        tell(x, STUFF, stuff);
        tell(x, SHIP, ship);
        tell(x, PLAN, plan);
        x.load(0, 0, 0L);
        return x;
    }

    /** UNITS of all columns of a hold, as one text. */
    static String row(GrainShift x, int hold) {
        StringBuilder out = new StringBuilder();
        for (int i = 0; x.column(hold, i, 0) != NONE; i++) {
            out.append(i == 0 ? "" : " ").append(x.column(hold, i, 0));
        }
        return out.toString();
    }

    void row(String what, GrainShift x, int hold, String want) {
        looked++;
        String got = row(x, hold);
        if (!got.equals(want)) {
            wrong++;
            System.out.println(what + ": hold " + hold + " has " + got + ", due is " + want);
        }
    }
}
