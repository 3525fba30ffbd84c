import java.util.ArrayList;
import java.util.List;
import java.util.function.Supplier;
import java.util.function.ToLongFunction;

/**
 * One case of one promise; its name stands ahead of each wrong answer.
 * A call that has to change nothing is made on one of two objects with the same past; then all that can be asked of
 * both has to be the same, their DEEDS one by one and their kept TOWNS, too.
 */
final class Case extends Check {
    private static final int FINDINGS = 5, KEPT = 3;

    Case(String name) {
        super(name + ": ");
    }

    void bad(String call, Supplier<FeltCold> made, ToLongFunction<FeltCold> asked) {
        refused(call, made, asked, FeltCold.BAD, 0);
    }

    void full(String call, Supplier<FeltCold> made, ToLongFunction<FeltCold> asked) {
        refused(call, made, asked, FeltCold.FULL, 0);
    }

    void state(String call, Supplier<FeltCold> made, ToLongFunction<FeltCold> asked) {
        refused(call, made, asked, FeltCold.STATE, 0);
    }

    /** NONE is no refusal, but it tells and changes as little. */
    void none(String call, Supplier<FeltCold> made, ToLongFunction<FeltCold> asked) {
        refused(call, made, asked, FeltCold.NONE, 0);
    }

    void found(String call, Supplier<FeltCold> made, ToLongFunction<FeltCold> asked, int which) {
        refused(call, made, asked, FeltCold.FINDING, which);
    }

    private void refused(String call, Supplier<FeltCold> made, ToLongFunction<FeltCold> asked, int want, int which) {
        FeltCold x = made.get();
        FeltCold same = made.get();
        due(call, asked.applyAsLong(x), want);
        due(call + " then asked()", x.asked(), same.asked());
        due(call + " then upper()", x.upper(), same.upper());
        due(call + " then lower()", x.lower(), same.lower());
        due(call + " then finding()", x.finding(), which == 0 ? same.finding() : which);
        for (int f = 1; f <= FINDINGS; f++) {
            int more = f == which ? 1 : 0;
            due(call + " then findings(" + f + ")", x.findings(f), same.findings(f) + more);
        }
        alike(call, x, same);
    }

    /** A call that is answered, but changes nothing aside from what asked(), upper(), lower() tell. */
    void changesNothing(String call, Supplier<FeltCold> made, ToLongFunction<FeltCold> asked) {
        FeltCold x = made.get();
        FeltCold same = made.get();
        due(call + " is answered", asked.applyAsLong(x) >= 0 ? 1 : 0, 1);
        due(call + " then finding()", x.finding(), same.finding());
        for (int f = 1; f <= FINDINGS; f++) {
            due(call + " then findings(" + f + ")", x.findings(f), same.findings(f));
        }
        alike(call, x, same);
    }

    /** A call that tells nothing: asked(), upper(), lower() stay. */
    void tellsNothing(String call, Supplier<FeltCold> made, ToLongFunction<FeltCold> asked) {
        FeltCold x = made.get();
        FeltCold same = made.get();
        due(call + " is answered", asked.applyAsLong(x) >= 0 ? 1 : 0, 1);
        due(call + " then asked()", x.asked(), same.asked());
        due(call + " then upper()", x.upper(), same.upper());
        due(call + " then lower()", x.lower(), same.lower());
    }

    private void alike(String call, FeltCold x, FeltCold same) {
        List<Long> got = states(x);
        List<Long> want = states(same);
        due(call + " then states", got.size(), want.size());
        for (int k = 0; k < Math.min(got.size(), want.size()); k++) {
            due(call + " then state " + k, got.get(k), want.get(k));
        }
    }

    /** All states on the way back through the DEEDS, then those of each kept TOWN. It uses the object up. */
    private static List<Long> states(FeltCold x) {
        List<Long> all = new ArrayList<>();
        undone(x, all);
        for (int k = 0; k < KEPT; k++) {
            all.add((long) x.on(k));
            undone(x, all);
        }
        return all;
    }

    private static void undone(FeltCold x, List<Long> all) {
        all.add(x.digest());
        for (int n = x.count(3) - 1; n >= 0; n--) {
            all.add((long) x.undo(n));
            all.add(x.digest());
        }
    }
}
