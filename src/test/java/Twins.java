import java.util.ArrayList;
import java.util.List;
import java.util.NoSuchElementException;

/** Two towns made alike: a call made in one of them alone shows what it changes. */
final class Twins {
    // What thrown() answers for a NoSuchElementException.
    static final long THROWN = Long.MIN_VALUE;

    private Twins() {
    }

    interface Asked {
        long in(TwoAtMost x);
    }

    /**
     * Three HOUSES, six THINGS (4 is nobody's), three KINDS; HOUSE 0 BREAKS KIND 0, THING 1 is lent; two acts can be
     * undone, a state is kept under 0, one THING was heard of, the ROW has two numbers, THE TEXT is that of one THING.
     */
    static TwoAtMost town() {
        TwoAtMost x = Check.town(3, "ab0;a1;a0;b1;c-;c2", "a;b!c;c");
        Check.rule(x, "t*2+h+i");
        x.sheet(2, 3, 50, 7);
        x.hours(1);
        // Forgets the hour: just the two acts behind it can be undone.
        x.houses(3);
        x.keep(0);
        x.lend(1, 0);
        x.paint(3, 4);
        x.heard(3, 0);
        x.broken();
        Check.put(x, "af2");
        return x;
    }

    /** The call gives this answer, and changes nothing at all. */
    static void changesNothing(String what, long want, Asked call) {
        TwoAtMost changed = town();
        TwoAtMost other = town();
        Check.is(what, call.in(changed), want);
        compare(what, changed, other, true);
    }

    /** The call tells a ROW, and changes nothing else. */
    static void changesRowAlone(String what, Asked call) {
        TwoAtMost changed = town();
        TwoAtMost other = town();
        Check.is(what + " is no refusal", call.in(changed) >= 0, true);
        compare(what, changed, other, false);
    }

    /** A call that reads THE TEXT gives this answer, empties THE TEXT, and changes nothing else. */
    static void emptiesTextAlone(String what, String text, long want, Asked call) {
        TwoAtMost changed = town();
        TwoAtMost other = town();
        changed.end(0);
        Check.put(changed, text);
        Check.is(what, call.in(changed), want);
        Check.is(what + ": THE TEXT is empty", changed.count(11), 0);
        Check.put(changed, "af2");
        compare(what, changed, other, true);
    }

    /** The two are alike, also in what can be undone, what is kept, what was heard and how THE TEXT reads. */
    private static void compare(String what, TwoAtMost one, TwoAtMost other, boolean rowToo) {
        alike(what + ": state", look(one), look(other));
        if (rowToo) {
            alike(what + ": ROW", row(one), row(other));
        }
        Check.is(what + ": whose()", one.whose(), other.whose());
        for (int i = 0; i < 2; i++) {
            Check.is(what + ": undo()", one.undo(), other.undo());
            alike(what + ": undone", look(one), look(other));
        }
        Check.is(what + ": again(1)", one.again(1), other.again(1));
        Check.is(what + ": again(0)", one.again(0), other.again(0));
        alike(what + ": kept", look(one), look(other));
        Check.is(what + ": THE TEXT", one.things(), other.things());
        alike(what + ": told", look(one), look(other));
    }

    private static void alike(String what, List<Long> one, List<Long> other) {
        Check.is(what + " as due, " + one + " for " + other, one.equals(other), true);
    }

    private static List<Long> row(TwoAtMost x) {
        List<Long> numbers = new ArrayList<>();
        for (int i = 0; i < x.count(10); i++) {
            numbers.add(x.row(i));
        }
        return numbers;
    }

    /** All that is seen of HOUSES, THINGS and KINDS without a change of the ROW, whose size is left out. */
    private static List<Long> look(TwoAtMost x) {
        List<Long> seen = new ArrayList<>();
        for (int what = 0; what < 12; what++) {
            seen.add(what == 10 ? 0L : (long) x.count(what));
        }
        for (int thing = 0; thing < seen.get(1); thing++) {
            for (int what = 0; what < 5; what++) {
                seen.add((long) x.thing(thing, what));
            }
            seen.add((long) x.worth(thing, thing % 3));
        }
        for (int kind = 0; kind < seen.get(2); kind++) {
            seen.add((long) x.kind(kind, 0));
            seen.add((long) x.kind(kind, 1));
        }
        for (int house = 0; house < seen.get(0); house++) {
            seen.add((long) x.house(house, 2));
            seen.add((long) x.house(house, 3));
        }
        return seen;
    }

    /** The answer of a call that throws: what a caller can compare. */
    static long thrown(Check.Call call) {
        try {
            return call.answer();
        } catch (NoSuchElementException e) {
            return THROWN;
        }
    }
}
