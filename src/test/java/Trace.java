import java.util.ArrayList;
import java.util.List;
import java.util.function.Supplier;
import java.util.function.ToLongFunction;

/**
 * All that can be seen of an object, as one row of answers. Two objects with the same calls behind them have
 * the same trace; so a call that changes nothing leaves its object with the trace of a twin that was not called.
 */
final class Trace {
    private final GrainShift x;
    private final List<Long> seen = new ArrayList<>();

    private Trace(GrainShift x) {
        this.x = x;
    }

    /** The last asks use the object up: they sail her, bring the image back and tell what is on the tape. */
    static List<Long> of(GrainShift x) {
        Trace t = new Trace(x);
        t.tables();
        t.her();
        t.tried();
        t.goneOn();
        t.tablesGrow();
        return t.seen;
    }

    /** The call answers so and leaves no trace. */
    static void none(Checks c, String call, Supplier<GrainShift> made, ToLongFunction<GrainShift> asked, long want) {
        GrainShift x = made.get();
        c.same(call, asked.applyAsLong(x), want);
        c.yes(call + " changes nothing", of(x).equals(of(made.get())));
    }

    /** The call leaves no trace, whatever it answers; and it answers so again. */
    static void none(Checks c, String call, Supplier<GrainShift> made, ToLongFunction<GrainShift> asked) {
        long first = asked.applyAsLong(made.get());
        none(c, call, made, asked, first);
        GrainShift x = made.get();
        asked.applyAsLong(x);
        c.same(call + " once more", asked.applyAsLong(x), first);
    }

    private void see(long answer) {
        seen.add(answer);
    }

    private void tables() {
        for (int what = 0; what < 10; what++) {
            see(x.count(what));
        }
        see(x.rules());
        for (int sort = 0; sort < 4; sort++) {
            see(x.fault(sort));
        }
        for (int stuff = 0; stuff < 6; stuff++) {
            for (int what = 0; what < 5; what++) {
                see(Checks.stuffOrThrown(x, stuff, what));
            }
        }
        for (int k = 0; k < 6; k++) {
            see(x.ship(k, -1, 0));
            see(x.plan(k, -1, 0));
            for (int row = 0; row < 2; row++) {
                see(k < 3 ? x.ship(k, row, 0) : 0);
                see(k < 3 ? x.ship(k, row, 1) : 0);
                for (int what = 0; what < 5; what++) {
                    see(x.plan(k, row, what));
                }
            }
        }
    }

    private void her() {
        for (int what = 0; what < 6; what++) {
            see(x.about(what));
        }
        for (int hold = 0; hold < 2; hold++) {
            for (int what = 0; what < 7; what++) {
                see(x.hold(hold, what));
            }
            for (int i = 0; i < 5; i++) {
                see(x.column(hold, i, 0));
            }
        }
    }

    private void tried() {
        see(x.best(0));
        see(x.best(1));
        see(x.agree(0, 5, 4));
        see(x.miss(1, 50));
        see(x.miss(2, 20));
        see(x.reach(9, 0));
        see(x.reach(9, 1));
        see(x.over(3, 1, 2, 1));
        see(x.goes(9, 0));
        for (int rule = 0; rule < 4; rule++) {
            see(x.follow(rule, 3, 2, 1, 1));
            see(x.follow(rule, 3, 2, 1, 2));
        }
    }

    /** Draws show in what a day shakes, hers and those of the image. */
    private void goneOn() {
        see(x.day(4));
        her();
        see(x.back());
        see(x.day(4));
        her();
    }

    private void tablesGrow() {
        for (int sort = 0; sort < 4; sort++) {
            see(x.text(sort));
        }
        see(x.feed('r', '1', 0, 0, 0));
        see(x.course(1, 1));
        see(x.port(1, 1));
        see(x.log(0));
        see(x.heap(0));
        see(x.count(3));
    }
}
