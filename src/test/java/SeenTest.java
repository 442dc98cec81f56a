/** Promises 38 to 50: of what there were three, what is seen, claims at rest, years, what is kept. */
public final class SeenTest {
    public static void main(String[] args) {
        had();
        heardAndForgotten();
        whose();
        ask();
        seen();
        finds();
        rests();
        years();
        yearsByHand();
        keepAndAgain();
        againRefused();
        count();
        row();
        Check.end();
    }

    private static void had() {
        TwoAtMost x = Check.town(2, "ab0;ab0;ac0;abc1", "a");
        Check.is("had: 3", x.had(0, 3), 2);
        Check.row("had: 3", x, 0, 1);
        Check.is("had: 2", x.had(0, 2), 2);
        Check.row("had: 2", x, 2, 1);
        Check.is("had: 1", x.had(0, 1), 2);
        Check.row("had: 1", x, 4, 1);
        Check.is("had: 0", x.had(0, 0), 58);
        Check.row("had: 0", x, 8, 3);
        Check.is("had: 12", x.had(0, 12), 0);
        Check.row("had: 12", x, -1, 0);
        x.lend(3, 0);
        Check.is("had: what it keeps", x.had(0, 4), 2);
        int[] wrong = {x.had(0, 13), x.had(0, -1), x.had(2, 0), x.had(-1, 0)};
        for (int answer : wrong) {
            Check.is("had: others", answer, -1);
        }
    }

    private static void heardAndForgotten() {
        TwoAtMost x = Check.town(2, "a0;b-", "a");
        int[] wrong = {x.heard(2, 0), x.heard(-1, 0), x.heard(0, 2), x.heard(0, -1)};
        for (int answer : wrong) {
            Check.is("heard: others", answer, -1);
        }
        for (int i = 1; i <= 12; i++) {
            Check.is("heard: how many", x.heard(i % 2, 0), i);
        }
        Check.is("heard: 13", x.heard(0, 0), -1);
        Check.is("heard: still 12", x.count(8), 12);
        Check.is("forget", x.forget(), 12);
        Check.is("forget: none", x.forget(), 0);
        Check.is("forget: heard anew", x.heard(0, 1), 1);
    }

    private static void whose() {
        TwoAtMost x = Check.town(4, "a0;a1;b2;c-", "a");
        Check.is("whose: all", x.whose(), 15);
        Check.row("whose: all", x, 4);
        x.heard(0, 0);
        x.heard(3, 0);
        Check.is("whose: not 0", x.whose(), 14);
        Check.row("whose: not 0", x, 3);
        x.heard(1, 1);
        Check.is("whose: 1", x.whose(), 2);
        Check.row("whose: 1", x, 1);
        x.lend(1, 3);
        Check.is("whose: keeps it now", x.whose(), 8);
        x.heard(3, 1);
        Check.is("whose: none", x.whose(), 0);
        Check.row("whose: none", x, 0);
    }

    private static void ask() {
        TwoAtMost x = Check.town(4, "c-;a3;a1", "a");
        Check.is("ask", x.ask(), 1);
        Check.row("ask", x, 3);
        x.heard(1, 0);
        Check.is("ask: next", x.ask(), 2);
        Check.row("ask: next", x, 2);
        x.heard(2, 0);
        Check.is("ask: no use", x.ask(), 0);
        Check.row("ask: no use", x, 2);
        x.heard(0, 1);
        Check.is("ask: no HOUSES", x.ask(), -2);
        Check.row("ask: stays", x, 2);
        Check.is("ask: no THINGS", new TwoAtMost().ask(), -2);
    }

    private static void seen() {
        TwoAtMost x = Check.town(2, "ab0;c-", "b!c;abc!def");
        fraction(x, 0, 0, 9, 81, 100);
        fraction(x, 1, 0, 9, 1, 100);
        fraction(x, 0, 0, 5, 1, 4);
        fraction(x, 0, 0, 4, 4, 25);
        fraction(x, 0, 0, 10, 1, 1);
        fraction(x, 0, 0, 0, 0, 1);
        fraction(x, 1, 0, 0, 1, 1);
        fraction(x, 1, 0, 10, 0, 1);
        fraction(x, 0, 1, 7, 50421, 1000000);
        fraction(x, 1, 1, 8, 256, 15625);
        int[] wrong = {x.seen(2, 0, 1), x.seen(-1, 0, 1), x.seen(0, 2, 1), x.seen(0, -1, 1), x.seen(0, 0, 11),
            x.seen(0, 0, -1)};
        for (int answer : wrong) {
            Check.is("seen: others", answer, -1);
        }
        Check.row("seen: stays", x, 256, 15625);
    }

    private static void fraction(TwoAtMost x, int thing, int kind, int p, int upper, int lower) {
        String call = "seen(" + thing + ", " + kind + ", " + p + ")";
        Check.is(call, x.seen(thing, kind, p), 0);
        Check.row(call, x, upper, lower);
    }

    private static void finds() {
        TwoAtMost x = Check.town(2, "a0;a0;b0;abc0;c-", "a!c;ab!cd");
        x.set(1);
        Check.is("finds: surely", x.finds(0, 0, 10), 1000000);
        Check.is("finds: never", x.finds(1, 0, 5), 0);
        // q is 810, 810, 90, 90: C by hand, cut each time.
        Check.is("finds: by 9", x.finds(0, 0, 9), byHand(new int[] {810, 810, 90, 90}, 1));
        // 6 traits by 7 of 10: 1000 times 7^3 * 3 / 10^4 is 102.9.
        Check.is("finds: q is cut", x.finds(0, 1, 7), byHand(new int[] {102, 102, 102, 102}, 1));
        Check.is("finds: never right", x.finds(0, 0, 0), 0);
        x.set(4);
        Check.is("finds: more than are kept", x.finds(0, 0, 5), 0);
        TwoAtMost y = Check.town(1, "a0;a0;a0;a0;a0;a0;a0;a0;a0;a0;a0;a0", "a");
        Check.is("finds: all twelve", y.finds(0, 0, 10), 1000000);
        Check.is("finds: twelve by halves", y.finds(0, 0, 5),
            byHand(new int[] {500, 500, 500, 500, 500, 500, 500, 500, 500, 500, 500, 500}, 2));
        int[] wrong = {x.finds(2, 0, 1), x.finds(-1, 0, 1), x.finds(0, 2, 1), x.finds(0, -1, 1), x.finds(0, 0, 11),
            x.finds(0, 0, -1)};
        for (int answer : wrong) {
            Check.is("finds: others", answer, -1);
        }
    }

    private static long byHand(int[] q, int most) {
        long[] c = new long[q.length + 1];
        c[0] = 1000000;
        for (int taken : q) {
            long[] next = new long[c.length];
            for (int j = 0; j < c.length; j++) {
                next[j] = (c[j] * (1000 - taken) + (j > 0 ? c[j - 1] * taken : 0)) / 1000;
            }
            c = next;
        }
        long sum = 0;
        for (int j = most + 1; j < c.length; j++) {
            sum += c[j];
        }
        return sum;
    }

    private static void rests() {
        TwoAtMost x = new TwoAtMost();
        Check.is("rests: nothing to get", x.rests(0, 1), 1);
        Check.row("rests: nothing to get", x, 0, 0);
        Check.is("rests: all", x.rests(0, 0), 100);
        Check.is("rests: free, both come first", x.rests(10, 0), 1);
        Check.row("rests: free", x, 9, 9);
        // Half is 0 of 1: whoever is behind has 0 anyhow.
        Check.is("rests: one", x.rests(1, 0), 19);
        Check.row("rests: one", x, 0, 9);
        Check.is("rests: none", x.rests(10, 1), 0);
        Check.row("rests: none", x);
        Check.is("rests: the most", x.rests(99, 0), 1);
        Check.is("rests: the most, for one each", x.rests(99, 1), 1);
        Check.row("rests: the most, for one each", x, 9, 9);
        Check.is("rests: the most, dear", x.rests(99, 9), 0);
        Check.is("rests: dear", x.rests(4, 9), 1);
        Check.row("rests: dear", x, 0, 0);
        int[] wrong = {x.rests(-1, 0), x.rests(100, 0), x.rests(0, -1), x.rests(0, 10)};
        for (int answer : wrong) {
            Check.is("rests: others", answer, -1);
        }
        Check.row("rests: stays", x, 0, 0);
    }

    private static void years() {
        TwoAtMost x = new TwoAtMost();
        Check.is("years: no THINGS asked first", x.years(1, 0), -2);
        Check.things(x, "a0;a-;a1");
        Check.kinds(x, "a");
        Check.is("years: 0", x.years(1, 0), -1);
        Check.is("years: 61", x.years(1, 61), -1);
        Check.is("years: 60", x.years(1, 60) >= 0, true);
        Check.is("years: 1", x.years(1, 1) >= 0, true);
        x.set(1);
        x.paint(0, 1);
        for (int seed = -300; seed < 300; seed += 7) {
            x.years(seed * 7654321, 60);
        }
        Check.is("years: a question: owner", x.thing(0, 1), 0);
        Check.is("years: a question: owner", x.thing(2, 1), 1);
        Check.is("years: a question: hour", x.count(4), 0);
        Check.is("years: a question: undo", x.undo(), 0);
    }

    private static void yearsByHand() {
        TwoAtMost x = Check.town(2, "a0;a1", "a");
        x.set(1);
        // Seed 0: R is 12345: THING 0, then -740551042: by 65536 is 54236: HOUSE 0: given, nothing broken.
        Check.is("years: one hour", x.years(0, 1), 0);
        Check.row("years: one hour", x, 1, 0);
        int random = 99;
        int given = 0;
        int taken = 0;
        int[] owner = {0, 1};
        for (int hour = 0; hour < 20; hour++) {
            random = random * 1103515245 + 12345;
            int thing = (random >>> 16) % 2;
            random = random * 1103515245 + 12345;
            int house = (random >>> 16) % 2;
            if (owner[thing] >= 0) {
                owner[thing] = house;
                given++;
            }
            if (owner[0] == hour % 2 && owner[1] == hour % 2) {
                owner[1] = -1;
                taken++;
            }
        }
        Check.is("years: twenty hours", x.years(99, 20), taken);
        Check.row("years: twenty hours", x, given, owner[0] >= 0 && owner[0] == owner[1] ? 1 : 0);
    }

    private static void keepAndAgain() {
        TwoAtMost x = Check.town(2, "a0;b1", "a");
        Check.is("again: nothing kept", x.again(0), false);
        Check.is("keep: 2", x.keep(2), false);
        Check.is("keep: -1", x.keep(-1), false);
        Check.is("keep: 0", x.keep(0), true);
        Check.is("again: 1 is not kept", x.again(1), false);
        x.give(0, 1);
        x.lend(1, 0);
        x.paint(0, 5);
        x.sheet(2, 2, 1, 1);
        x.hours(7);
        x.set(3);
        Check.is("keep: 1", x.keep(1), true);
        Check.is("again: 0", x.again(0), true);
        Check.is("again: owner", x.thing(0, 1), 0);
        Check.is("again: keeper", x.thing(1, 2), 1);
        Check.is("again: traits", x.thing(0, 0), 1);
        x.paint(0, 0);
        x.again(0);
        Check.is("again: kinds of it", x.kind(0, 2), 1);
        Check.is("again: coins", x.house(0, 2), 100);
        Check.is("again: HOUR", x.count(4), 0);
        Check.is("again: MOST stays", x.count(3), 3);
        Check.is("again: 1", x.again(1), true);
        Check.is("again: traits of 1", x.thing(0, 0), 33);
        Check.is("again: HOUR of 1", x.count(4), 7);
        x.hours(1);
        Check.is("keep: over it", x.keep(1), true);
        x.hours(1);
        Check.is("again: twice", x.again(1), true);
        Check.is("again: the later one", x.count(4), 8);
        Check.is("again: 2", x.again(2), false);
        Check.is("again: -1", x.again(-1), false);
    }

    private static void againRefused() {
        TwoAtMost x = Check.town(2, "a0", "a");
        x.keep(0);
        x.things();
        x.kinds();
        Check.things(x, "y");
        Check.kinds(x, "y");
        x.houses(0);
        x.rule();
        Check.is("again: none was told", x.again(0), true);
        Check.things(x, "b1");
        x.hours(3);
        Check.is("again: THINGS were told", x.again(0), false);
        Check.is("again: refused, HOUR", x.count(4), 3);
        Check.is("again: refused, undo", x.count(9), 1);
        x.keep(0);
        x.keep(1);
        Check.kinds(x, "b");
        Check.is("again: KINDS were told", x.again(1), false);
        x.keep(1);
        x.houses(3);
        Check.is("again: HOUSES were told", x.again(1), false);
        x.keep(1);
        Check.is("again: kept anew", x.again(1), true);
        Check.is("again: the other is not", x.again(0), false);
    }

    private static void count() {
        TwoAtMost x = Check.town(3, "a0;a0;a0;b1;c-;c-", "a;b;c;d");
        x.lend(3, 0);
        x.hours(1);
        x.undo();
        x.heard(0, 0);
        x.broken();
        Check.put(x, "abcde");
        int[] want = {3, 6, 4, 2, 0, 48, 8, 1, 1, 1, 2, 5};
        for (int what = 0; what < want.length; what++) {
            Check.is("count(" + what + ")", x.count(what), want[what]);
        }
        x.give(0, 2);
        x.give(1, 2);
        x.give(2, 2);
        Check.is("count(7) as bits", x.count(7), 4);
        Check.is("count(12)", x.count(12), -1);
        Check.is("count(-1)", x.count(-1), -1);
    }

    private static void row() {
        TwoAtMost x = new TwoAtMost();
        Check.lacks("row: none yet", () -> x.row(0));
        x.broken();
        Check.is("row(1)", x.row(1), 0);
        Check.lacks("row(2)", () -> x.row(2));
        Check.lacks("row(-1)", () -> x.row(-1));
        x.rid(5);
        x.count(0);
        x.set(3);
        Check.row("row: others leave it", x, 0, 0);
    }
}
