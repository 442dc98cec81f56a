import java.util.Arrays;

/** Promises 38 to 50: each sentence that names a bound or a refusal has a test of its own, and its words stand above it. */
public final class SeenEdgeTest {
    private static final int LEAST = Integer.MIN_VALUE;
    private static final int GREATEST = Integer.MAX_VALUE;

    public static void main(String[] args) {
        Check.runAll(SeenEdgeTest.class);
    }

    /** Promise 38: "sets of TRAITS (none, too), such that just n of the THINGS that it keeps have all of them". */
    static void promise38NoneToo() {
        TwoAtMost x = Check.town(2, "a0;0;b-", "");
        Check.is("an empty HOUSE has 0 of all", x.had(1, 0), 64);
        Check.row("no TRAITS, six single ones", x, 0, 6);
        Check.is("two have none", x.had(0, 2), 1);
        Check.row("two have none", x, 0, 0);
        Check.is("one has a", x.had(0, 1), 1);
        Check.row("one has a", x, 1, 1);
        Check.is("all others", x.had(0, 0), 62);
        Check.row("nobody's b does not count", x, 2, 5);
    }

    /** Promise 38: "n (0 .. 12)": all twelve. */
    static void promise38Twelve() {
        TwoAtMost x = Check.town(1, "abcdef0;".repeat(9) + "a0", "");
        Check.things(x, "a0;a0");
        Check.is("twelve", x.had(0, 12), 2);
        Check.row("twelve", x, 0, 1);
        Check.is("nine", x.had(0, 9), 62);
        Check.row("nine", x, 2, 5);
        Check.is("eleven", x.had(0, 11), 0);
        Check.row("eleven", x, -1, 0);
    }

    /** Promise 38: "that it keeps", not that it owns. */
    static void promise38ThatItKeeps() {
        TwoAtMost x = Check.town(2, "a0;a0;a0;a1", "");
        x.lend(0, 1);
        Check.is("two are kept", x.had(0, 2), 2);
        Check.is("not three", x.had(0, 3), 0);
        Check.is("the other keeps two", x.had(1, 2), 2);
    }

    /** Promise 38: "the least of as few TRAITS as can be (bits; NONE), how many are of a single TRAIT". */
    static void promise38LeastOfAsFew() {
        TwoAtMost x = Check.town(1, "abc0;abc0;abf0;cf0", "");
        Check.is("three: a, b, c, ab", x.had(0, 3), 4);
        Check.row("three", x, 1, 3);
        Check.is("two: f, ac, bc, abc", x.had(0, 2), 4);
        Check.row("f is one TRAIT", x, 32, 1);
        Check.is("one: af, bf, cf, abf", x.had(0, 1), 4);
        Check.row("af is the least of two", x, 33, 0);
        Check.is("none of five", x.had(0, 5), 0);
        Check.row("none of five", x, -1, 0);
    }

    /** Promise 38: "NONE: others." */
    static void promise38Others() {
        TwoAtMost x = Check.town(3, "a0", "");
        Check.none("HOUSES", x.had(3, 0), x.had(-1, 0), x.had(LEAST, 0), x.had(GREATEST, 0));
        Check.none("n", x.had(0, 13), x.had(0, -1), x.had(0, LEAST), x.had(0, GREATEST));
        Check.is("the last of both", x.had(2, 12), 0);
        Twins.changesNothing("n 13", -1, t -> t.had(0, 13));
        Twins.changesNothing("HOUSE 3", -1, t -> t.had(3, 1));
        Twins.changesRowAlone("a question", t -> t.had(0, 2));
    }

    /** Promise 39: "kept (is 1), or did not keep (0), a THING: .. how many such". */
    static void promise39HowMany() {
        TwoAtMost x = Check.town(2, "a0;b-", "");
        Check.is("one", x.heard(0, 1), 1);
        Check.is("two", x.heard(1, 0), 2);
        Check.is("the same again", x.heard(1, 0), 3);
        Check.is("count(8)", x.count(8), 3);
    }

    /** Promise 39: "Refused: others": another is. */
    static void promise39AnotherIs() {
        TwoAtMost x = Check.town(2, "a0", "");
        Check.none("is", x.heard(0, 2), x.heard(0, -1), x.heard(0, LEAST), x.heard(0, GREATEST));
        Check.is("none was heard", x.count(8), 0);
        Twins.changesNothing("is 2", -1, t -> t.heard(0, 2));
        Twins.changesNothing("is -1", -1, t -> t.heard(0, -1));
    }

    /** Promise 39: "Refused: others": no such THING. */
    static void promise39NoSuchThing() {
        TwoAtMost x = Check.town(2, "a0;b1", "");
        Check.none("THINGS", x.heard(2, 0), x.heard(-1, 0), x.heard(LEAST, 0), x.heard(GREATEST, 0));
        Check.is("the last", x.heard(1, 0), 1);
        Twins.changesNothing("THING 6", -1, t -> t.heard(6, 0));
    }

    /** Promise 39: "Refused: .. 12". */
    static void promise39Twelve() {
        TwoAtMost x = Check.town(2, "a0;b1", "");
        for (int i = 1; i <= 12; i++) {
            Check.is("up to twelve", x.heard(0, 1), i);
        }
        Check.is("a thirteenth", x.heard(1, 1), -1);
        Check.is("still twelve", x.count(8), 12);
        Check.is("it is not heard", x.whose(), 1);
        Check.is("forgotten", x.forget(), 12);
        Check.is("anew", x.heard(1, 1), 1);
        Check.is("the other", x.whose(), 2);
    }

    /** Promise 40: "It is forgotten: how many there were": perhaps none. */
    static void promise40Forgotten() {
        TwoAtMost x = Check.town(2, "a0", "");
        Check.is("none", x.forget(), 0);
        x.heard(0, 0);
        Check.is("one", x.forget(), 1);
        Check.is("none is left", x.count(8), 0);
        Check.is("all fit again", x.whose(), 3);
        Check.is("none again", x.forget(), 0);
    }

    /** Promise 41: "HOUSES (bits) that fit all that was heard; the ROW: how many": all, some, none. */
    static void promise41AllToNone() {
        TwoAtMost x = Check.town(5, "a4;b0;c-", "");
        Check.is("nothing was heard", x.whose(), 31);
        Check.row("nothing was heard", x, 5);
        x.heard(2, 0);
        Check.is("nobody's: all keep it not", x.whose(), 31);
        x.heard(1, 0);
        Check.is("not 0", x.whose(), 30);
        Check.row("not 0", x, 4);
        x.heard(0, 1);
        Check.is("4 alone", x.whose(), 16);
        Check.row("4 alone", x, 1);
        x.heard(0, 0);
        Check.is("none fits both", x.whose(), 0);
        Check.row("none fits both", x, 0);
        Twins.changesRowAlone("a question", t -> t.whose());
    }

    /** Promise 41: nobody's THING is kept by no HOUSE; a lent one by its KEEPER. */
    static void promise41ByTheKeeper() {
        TwoAtMost x = Check.town(2, "a-;b0", "");
        x.heard(0, 1);
        Check.is("nobody's", x.whose(), 0);
        x.forget();
        x.lend(1, 1);
        x.heard(1, 1);
        Check.is("lent", x.whose(), 2);
    }

    /** Promise 42: "so that, whatever is told, the fewest such HOUSES are left at most". */
    static void promise42Fewest() {
        TwoAtMost x = Check.town(2, "c-;a1", "");
        Check.is("it tells them apart", x.ask(), 1);
        Check.row("it tells them apart", x, 1);
        x.heard(1, 1);
        Check.is("one is left: any will do", x.ask(), 0);
        Check.row("one is left", x, 1);
        TwoAtMost y = new TwoAtMost();
        y.houses(5);
        Check.things(y, "-;a4");
        Check.is("one of five", y.ask(), 1);
        Check.row("one of five", y, 4);
    }

    /** Promise 42: "such HOUSES": those that fit what was heard, alone. */
    static void promise42SuchHouses() {
        TwoAtMost x = Check.town(4, "a0;b1;c2;d3", "");
        x.heard(0, 0);
        x.heard(1, 0);
        Check.is("2 or 3: THING 2", x.ask(), 2);
        Check.row("2 or 3", x, 1);
    }

    /** Promise 42: "of equal ones the first". */
    static void promise42First() {
        TwoAtMost x = Check.town(3, "a2;b1;c0", "");
        Check.is("all alike", x.ask(), 0);
        Check.row("all alike", x, 2);
    }

    /** Promise 42: "-2: there are no such HOUSES". */
    static void promise42NoSuchHouses() {
        TwoAtMost x = Check.town(2, "a-", "");
        x.broken();
        x.heard(0, 1);
        Check.is("none", x.ask(), -2);
        Check.row("the ROW stays", x, 0, 0);
    }

    /** Promise 42: "-2: .. or no THINGS". */
    static void promise42NoThings() {
        TwoAtMost x = new TwoAtMost();
        x.broken();
        Check.is("none", x.ask(), -2);
        Check.row("the ROW stays", x, 0, 0);
        Check.things(x, "-");
        Check.is("one", x.ask(), 0);
        Check.row("one", x, 2);
        Twins.changesRowAlone("a question", t -> t.ask());
    }

    /** Promise 43: "by p tenths (0 .. 10)": never, surely. */
    static void promise43NeverAndSurely() {
        TwoAtMost x = Check.town(1, "a0;b0;0", "a!b");
        fraction(x, 0, 10, 1, 1);
        fraction(x, 1, 10, 0, 1);
        fraction(x, 2, 10, 0, 1);
        fraction(x, 0, 0, 0, 1);
        fraction(x, 1, 0, 1, 1);
        fraction(x, 2, 0, 0, 1);
        fraction(x, 0, 1, 1, 100);
        fraction(x, 0, 9, 81, 100);
        fraction(x, 2, 9, 9, 100);
    }

    /** Promise 43: "each TRAIT that a KIND must or must not have": no other counts, six may. */
    static void promise43TraitsOfTheKind() {
        TwoAtMost x = Check.town(1, "abcdef0;0;abc-", "f;abc!def");
        x.seen(0, 0, 7);
        Check.row("one TRAIT", x, 7, 10);
        x.seen(1, 0, 7);
        Check.row("not this one", x, 3, 10);
        x.seen(2, 1, 1);
        Check.row("all six by 1", x, 1, 1000000);
        x.seen(2, 1, 9);
        Check.row("all six by 9", x, 531441, 1000000);
        x.seen(0, 1, 9);
        Check.row("three of six by 9", x, 729, 1000000);
    }

    /** Promise 43: "the fraction" in lowest terms. */
    static void promise43LowestTerms() {
        TwoAtMost x = Check.town(1, "abc0;0", "abc!def;a");
        x.seen(0, 0, 5);
        Check.row("halves", x, 1, 64);
        x.seen(0, 0, 8);
        Check.row("by 8", x, 4096, 15625);
        x.seen(1, 0, 2);
        // Three of six fit: 8 by 1000, 512 by 1000.
        Check.row("by 2", x, 64, 15625);
        x.seen(0, 1, 2);
        Check.row("one by 2", x, 1, 5);
    }

    /** Promise 43: "NONE: others." */
    static void promise43Others() {
        TwoAtMost x = Check.town(1, "a0;b-", "a;b");
        Check.none("THINGS", x.seen(2, 0, 5), x.seen(-1, 0, 5), x.seen(LEAST, 0, 5), x.seen(GREATEST, 0, 5));
        Check.none("KINDS", x.seen(0, 2, 5), x.seen(0, -1, 5), x.seen(0, LEAST, 5), x.seen(0, GREATEST, 5));
        Check.none("p", x.seen(0, 0, 11), x.seen(0, 0, -1), x.seen(0, 0, LEAST), x.seen(0, 0, GREATEST));
        Check.is("the last of all", x.seen(1, 1, 10), 0);
        Twins.changesNothing("p 11", -1, t -> t.seen(0, 0, 11));
        Twins.changesNothing("THING 6", -1, t -> t.seen(6, 0, 5));
        Twins.changesNothing("KIND 3", -1, t -> t.seen(0, 3, 5));
        Twins.changesRowAlone("a question", t -> t.seen(0, 0, 5));
    }

    /** Promise 44: "(C(0) 1000000 at first, others 0)": without THINGS, or as few as MOST, there is nothing above MOST. */
    static void promise44NothingAboveMost() {
        TwoAtMost x = Check.town(2, "a0;a0;a0", "a");
        Check.is("an empty HOUSE", x.finds(1, 0, 10), 0);
        x.set(3);
        Check.is("three of MOST 3", x.finds(0, 0, 10), 0);
        x.set(2);
        Check.is("three of MOST 2", x.finds(0, 0, 10), 1000000);
        Check.is("never", x.finds(0, 0, 0), 0);
    }

    /** Promise 44: "C(j) becomes C(j) times (1000 less q) and C(j - 1) times q, added, by 1000 (cut)". */
    static void promise44Cut() {
        TwoAtMost x = Check.town(1, "a0;a0;b0;ab0;0;a-", "a!b;ab!cd");
        for (int most = 1; most <= 4; most++) {
            x.set(most);
            for (int p = 0; p <= 10; p++) {
                int[] ofFirst = {p * p, p * p, (10 - p) * (10 - p), p * (10 - p), p * (10 - p)};
                for (int i = 0; i < 5; i++) {
                    ofFirst[i] = ofFirst[i] * 1000 / 100;
                }
                Check.is("MOST " + most + ", p " + p, x.finds(0, 0, p), due(ofFirst, most));
            }
        }
    }

    /** Promise 44: "q is 1000 times how likely the THING is taken to be of it (cut)". */
    static void promise44QIsCut() {
        TwoAtMost x = Check.town(1, "ab0;a0", "ab!cd");
        x.set(1);
        // By 7: 7^4 by 10^4 is .2401, and 7^3 times 3 by 10^4 is .1029.
        Check.is("by 7", x.finds(0, 0, 7), due(new int[] {240, 102}, 1));
        // By 1: .0001 and .0009: both are cut to 0.
        Check.is("by 1", x.finds(0, 0, 1), 0);
    }

    /** Promise 44: "at last C of all j above MOST added up": all twelve THINGS. */
    static void promise44TwelveThings() {
        TwoAtMost x = Check.town(1, "a0;a0;a0;a0;a0;a0;a0;a0;a0;a0;a0;a0", "a");
        int[] q = new int[12];
        for (int p = 0; p <= 10; p++) {
            Arrays.fill(q, 100 * p);
            for (int most = 1; most <= 4; most++) {
                x.set(most);
                Check.is("p " + p + ", MOST " + most, x.finds(0, 0, p), due(q, most));
            }
        }
        x.set(1);
        Check.is("all twelve, surely", x.finds(0, 0, 10), 1000000);
        Check.is("behind that C begins anew", x.finds(0, 0, 0), 0);
    }

    /** Promise 44: "each THING that it keeps", not that it owns. */
    static void promise44ThatItKeeps() {
        TwoAtMost x = Check.town(2, "a0;a0;a1", "a");
        x.lend(2, 0);
        Check.is("a lent one, too", x.finds(0, 0, 10), 1000000);
        Check.is("its OWNER", x.finds(1, 0, 10), 0);
        x.lend(0, 1);
        Check.is("one is lent away", x.finds(0, 0, 10), 0);
    }

    /** Promise 44: "NONE: others." */
    static void promise44Others() {
        TwoAtMost x = Check.town(2, "a1;b-", "a;b");
        Check.none("HOUSES", x.finds(2, 0, 5), x.finds(-1, 0, 5), x.finds(LEAST, 0, 5), x.finds(GREATEST, 0, 5));
        Check.none("KINDS", x.finds(0, 2, 5), x.finds(0, -1, 5), x.finds(0, LEAST, 5), x.finds(0, GREATEST, 5));
        Check.none("p", x.finds(0, 0, 11), x.finds(0, 0, -1), x.finds(0, 0, LEAST), x.finds(0, 0, GREATEST));
        Check.is("the last of all", x.finds(1, 1, 10), 0);
        Twins.changesNothing("p 11", -1, t -> t.finds(0, 0, 11));
        Twins.changesNothing("HOUSE 3", -1, t -> t.finds(3, 0, 5));
        Twins.changesNothing("KIND 3", -1, t -> t.finds(0, 3, 5));
        Twins.changesNothing("a question that tells no ROW", 1000000, t -> t.finds(0, 0, 10));
    }

    /** Promise 45: all v (0 .. 99) and c (0 .. 9), pair by pair. */
    static void promise45AllPairs() {
        for (int c = 0; c <= 9; c++) {
            for (int v = 0; v <= 99; v++) {
                TwoAtMost x = new TwoAtMost();
                int[] found = atRest(v, c);
                Check.is("rests(" + v + ", " + c + ")", x.rests(v, c), found[0]);
                Check.row("rests(" + v + ", " + c + ")", x, Arrays.stream(found, 1, found.length).asLongStream().toArray());
            }
        }
    }

    /** Promise 45: "(of like ones each half of v, cut)". */
    static void promise45HalfIsCut() {
        TwoAtMost x = new TwoAtMost();
        // Half of 1 is 0: whoever has the other ahead at 9 has nothing to gain.
        Check.is("1", x.rests(1, 0), 19);
        Check.row("1", x, 0, 9);
        Check.is("2", x.rests(2, 0), 1);
        Check.row("2", x, 9, 9);
        // Half of 3 is 1, and an hour ahead for 2 leaves 1, too: 0 0, 0 1, 1 0.
        Check.is("3 for 2", x.rests(3, 2), 3);
        Check.row("3 for 2", x, 0, 0);
        // Of 4 the half is 2: 1 1 leaves nothing to each, and no other hour more.
        Check.is("4 for 2", x.rests(4, 2), 4);
        Check.row("4 for 2", x, 0, 0);
        // Of 5 it is 2, and an hour more always leaves more: none.
        Check.is("5 for 2", x.rests(5, 2), 0);
        Check.row("5 for 2", x);
    }

    /** Promise 45: "the ROW: the least (nothing without)". */
    static void promise45NothingWithout() {
        TwoAtMost x = new TwoAtMost();
        x.broken();
        Check.is("none", x.rests(10, 1), 0);
        Check.row("none", x);
        Check.is("all", x.rests(0, 0), 100);
        Check.row("all", x, 0, 0);
    }

    /** Promise 45: "NONE: others." */
    static void promise45Others() {
        TwoAtMost x = new TwoAtMost();
        Check.none("v", x.rests(100, 1), x.rests(-1, 1), x.rests(LEAST, 1), x.rests(GREATEST, 1));
        Check.none("c", x.rests(1, 10), x.rests(1, -1), x.rests(1, LEAST), x.rests(1, GREATEST));
        Check.is("the greatest", x.rests(99, 9), 0);
        Check.is("the least", x.rests(0, 0), 100);
        Twins.changesNothing("v 100", -1, t -> t.rests(100, 1));
        Twins.changesNothing("c 10", -1, t -> t.rests(1, 10));
        Twins.changesRowAlone("a question", t -> t.rests(0, 0));
    }

    /** Promise 46: "n HOURS (1 .. 60) from now", "NONE: another n". */
    static void promise46AnotherN() {
        TwoAtMost x = Check.town(2, "a0", "a");
        Check.is("one", x.years(5, 1), 0);
        Check.row("one", x, 1, 0);
        Check.is("sixty", x.years(5, 60), 0);
        Check.row("sixty", x, 60, 0);
        Check.none("others", x.years(5, 0), x.years(5, 61), x.years(5, -1), x.years(5, LEAST), x.years(5, GREATEST));
        Check.row("the ROW stays", x, 60, 0);
        Twins.changesNothing("n 0", -1, t -> t.years(5, 0));
        Twins.changesNothing("n 61", -1, t -> t.years(5, 61));
    }

    /** Promise 46: "-2: there are no THINGS (asked first)". */
    static void promise46NoThings() {
        TwoAtMost x = new TwoAtMost();
        x.broken();
        Check.is("with a good n", x.years(5, 1), -2);
        Check.is("with another n", x.years(5, 0), -2);
        Check.is("with another n", x.years(5, 61), -2);
        Check.row("the ROW stays", x, 0, 0);
    }

    /** Promise 46: "(.. nobody's: nothing)": what is nobody's is not given. */
    static void promise46Nobodys() {
        TwoAtMost x = Check.town(2, "a-;a-;a-", "a");
        Check.is("none taken", x.years(7, 60), 0);
        Check.row("none given", x, 0, 0);
    }

    /** Promise 46: "R = R times 1103515245 + 12345 (as ints; R is seed at first), (R without sign, by 65536) % n". */
    static void promise46Draws() {
        int[] seeds = {0, 1, -1, 5, LEAST, GREATEST, 123456789, -987654321};
        for (int seed : seeds) {
            for (int n : new int[] {1, 2, 3, 10, 59, 60}) {
                yearsAsDrawn(seed, n);
            }
        }
    }

    /** Promise 46: "from now": the HOUR that is now tells which HOUSE the inspector comes to first. */
    static void promise46FromNow() {
        TwoAtMost x = Check.town(2, "a0;a0;a0", "a");
        TwoAtMost y = Check.town(2, "a0;a0;a0", "a");
        y.hours(0);
        y.lend(0, 1);
        y.hours(1);
        y.lend(0, 0);
        int unlike = 0;
        for (int seed = 0; seed < 40; seed++) {
            unlike += x.years(seed, 1) == y.years(seed, 1) ? 0 : 1;
        }
        Check.is("he comes to HOUSE 0, or to HOUSE 1", unlike > 0, true);
    }

    /** Promise 46: a question: "Questions change nothing." */
    static void promise46Question() {
        Twins.changesRowAlone("one", t -> t.years(3, 1));
        Twins.changesRowAlone("sixty", t -> t.years(-3, 60));
    }

    /** Promise 47: "kept under a number 0 .. 1: true. Refused: others." */
    static void promise47Others() {
        TwoAtMost x = Check.town(2, "a0", "a");
        Check.is("0", x.keep(0), true);
        Check.is("1", x.keep(1), true);
        Check.is("2", x.keep(2), false);
        Check.is("-1", x.keep(-1), false);
        Check.is("the least", x.keep(LEAST), false);
        Check.is("the greatest", x.keep(GREATEST), false);
        Twins.changesNothing("2", 0, t -> t.keep(2) ? 1 : 0);
        Twins.changesNothing("-1", 0, t -> t.keep(-1) ? 1 : 0);
    }

    /** Promise 47: kept anew under a number: the later one. */
    static void promise47Anew() {
        TwoAtMost x = Check.town(2, "a0", "a");
        x.keep(0);
        x.keep(1);
        x.hours(1);
        x.keep(0);
        x.hours(1);
        Check.is("again", x.again(0), true);
        Check.is("the later one", x.count(4), 1);
        Check.is("the other", x.again(1), true);
        Check.is("as it was", x.count(4), 0);
        Check.is("again and again", x.again(0), true);
        Check.is("still kept", x.count(4), 1);
    }

    /** Promise 48: "They are as they were kept": OWNERS, KEEPERS, TRAITS, COINS, HOUR, and nothing else. */
    static void promise48AsTheyWereKept() {
        TwoAtMost x = Check.town(2, "a0;b0;c-", "a");
        x.lend(1, 1);
        x.hours(3);
        x.keep(1);
        x.give(0, 1);
        x.lend(1, 0);
        x.buy(2, 1);
        x.paint(0, 5);
        x.sheet(2, 2, 5, 1);
        x.hours(4);
        x.set(4);
        Check.rule(x, "7");
        x.heard(0, 0);
        Check.put(x, "zz");
        x.broken();
        Check.is("again", x.again(1), true);
        Check.is("OWNERS", x.thing(0, 1) + 10 * x.thing(1, 1) + 100 * x.thing(2, 1), -100);
        Check.is("KEEPERS", x.thing(0, 2) + 10 * x.thing(1, 2) + 100 * x.thing(2, 2), 10 - 100);
        Check.is("TRAITS", x.thing(0, 0), 1);
        Check.is("COINS", x.house(0, 2) + x.house(1, 2), 200);
        Check.is("HOUR", x.count(4), 3);
        Check.is("MOST stays", x.count(3), 4);
        Check.is("THE RULE stays", x.worth(0, 0), 7);
        Check.is("heard stays", x.count(8), 1);
        Check.is("THE TEXT stays", x.count(11), 2);
        Check.row("the ROW stays", x, 0, 0);
    }

    /** Promise 48: TRAITS "are as they were kept": so are the KINDS that a THING is of. */
    static void promise48KindsAsTheyWere() {
        TwoAtMost x = Check.town(2, "a0;a0;a0;b-", "a;b");
        x.keep(0);
        x.paint(2, 0);
        x.paint(2, 1);
        x.paint(0, 1);
        x.paint(1, 1);
        Check.is("it BREAKS b", x.house(0, 3), 2);
        x.again(0);
        Check.is("it BREAKS a", x.house(0, 3), 1);
        Check.is("KINDS of the last", x.thing(2, 3), 1);
        Check.is("THINGS of a", x.kind(0, 2), 7);
        Check.is("THINGS of b", x.kind(1, 2), 8);
        Check.is("one of b may be bought", x.buy(3, 0), 96);
    }

    /** Promise 48: "Refused: nothing kept", or another number. */
    static void promise48NothingKept() {
        TwoAtMost x = Check.town(2, "a0", "a");
        Check.is("0", x.again(0), false);
        Check.is("1", x.again(1), false);
        x.keep(1);
        Check.is("0 is not kept", x.again(0), false);
        Check.is("1 is", x.again(1), true);
        Check.is("2", x.again(2), false);
        Check.is("-1", x.again(-1), false);
        Check.is("the least", x.again(LEAST), false);
        Check.is("the greatest", x.again(GREATEST), false);
        Twins.changesNothing("1", 0, t -> t.again(1) ? 1 : 0);
        Twins.changesNothing("2", 0, t -> t.again(2) ? 1 : 0);
    }

    /** Promise 48: "Refused: .. THINGS .. were told since". */
    static void promise48ThingsWereTold() {
        TwoAtMost x = keptTwice();
        Check.things(x, "b1");
        refusedBoth(x);
        TwoAtMost y = keptTwice();
        Check.things(y, "b9");
        y.things();
        Check.is("none came", y.again(0) && y.again(1), true);
    }

    /** Promise 48: "Refused: .. KINDS .. were told since". */
    static void promise48KindsWereTold() {
        TwoAtMost x = keptTwice();
        Check.kinds(x, "b");
        refusedBoth(x);
        TwoAtMost y = keptTwice();
        Check.kinds(y, "b0");
        y.kinds();
        Check.is("none came", y.again(0) && y.again(1), true);
    }

    /** Promise 48: "Refused: .. HOUSES were told since". */
    static void promise48HousesWereTold() {
        TwoAtMost x = keptTwice();
        x.houses(3);
        refusedBoth(x);
        TwoAtMost y = keptTwice();
        y.houses(2);
        refusedBoth(y);
        TwoAtMost z = keptTwice();
        z.houses(6);
        z.houses(0);
        Check.is("refused ones", z.again(0) && z.again(1), true);
    }

    /** Promise 48: a RULE, a sheet, MOST, A DAY told since refuse nothing. */
    static void promise48OthersWereTold() {
        TwoAtMost x = keptTwice();
        Check.rule(x, "t");
        x.sheet(2, 2, 1, 1);
        x.set(1);
        Check.day(x, "h5");
        x.undo();
        Check.is("both", x.again(0) && x.again(1), true);
    }

    /** Promise 49: "NONE for another what." */
    static void promise49AnotherWhat() {
        TwoAtMost x = new TwoAtMost();
        Check.none("others", x.count(12), x.count(-1), x.count(LEAST), x.count(GREATEST));
        Check.is("the last", x.count(11), 0);
        Twins.changesNothing("12", -1, t -> t.count(12));
    }

    /** Promise 49: "5: nobody's THINGS (bits), 6: lent ones, 7: HOUSES that BREAK something": the last of each. */
    static void promise49Bits() {
        TwoAtMost x = Check.town(5, "a4;a4;a4;a4;0;0;0;0;0;0;0;-", "a");
        Check.is("nobody's", x.count(5), 2048);
        Check.is("breaking", x.count(7), 16);
        Check.is("lent", x.count(6), 0);
        x.lend(10, 1);
        x.lend(0, 3);
        Check.is("lent then", x.count(6), 1024 + 1);
        x.set(4);
        Check.is("none breaks", x.count(7), 0);
    }

    /** Promise 49: "10: numbers of the ROW, 11: signs of THE TEXT": none, and the most that can be. */
    static void promise49RowAndText() {
        TwoAtMost x = Check.town(5, "0;0;0;0;0;0", "");
        Check.is("no ROW yet", x.count(10), 0);
        x.store(63);
        Check.is("six", x.count(10), 6);
        x.deal();
        Check.is("five", x.count(10), 5);
        x.store(0);
        Check.is("none", x.count(10), 0);
        Check.put(x, "z".repeat(80));
        Check.is("80 signs", x.count(11), 80);
    }

    /** Promise 50: "NoSuchElementException: none such." */
    static void promise50NoneSuch() {
        TwoAtMost x = Check.town(2, "a0;b1", "");
        Check.lacks("no ROW yet", () -> x.row(0));
        x.store(3);
        Check.is("the first", x.row(0), 0);
        Check.is("the last", x.row(1), 1);
        Check.lacks("behind it", () -> x.row(2));
        Check.lacks("-1", () -> x.row(-1));
        Check.lacks("the least", () -> x.row(LEAST));
        Check.lacks("the greatest", () -> x.row(GREATEST));
        x.rid(0);
        Check.is("a shorter one", x.row(0), 0);
        Check.lacks("of the longer one before", () -> x.row(1));
        x.store(0);
        Check.lacks("an empty one", () -> x.row(0));
        Twins.changesNothing("row(2)", Twins.THROWN, t -> Twins.thrown(() -> t.row(2)));
        Twins.changesNothing("row(-1)", Twins.THROWN, t -> Twins.thrown(() -> t.row(-1)));
    }

    private static void fraction(TwoAtMost x, int thing, int p, int upper, int lower) {
        Check.is("seen(" + thing + ", 0, " + p + ")", x.seen(thing, 0, p), 0);
        Check.row("seen(" + thing + ", 0, " + p + ")", x, upper, lower);
    }

    private static long due(int[] q, int most) {
        long[] c = new long[q.length + 2];
        c[0] = 1000000;
        for (int likely : q) {
            for (int j = q.length; j >= 0; j--) {
                c[j] = (c[j] * (1000 - likely) + (j > 0 ? c[j - 1] * likely : 0)) / 1000;
            }
        }
        long sum = 0;
        for (int j = most + 1; j <= q.length; j++) {
            sum += c[j];
        }
        return sum;
    }

    /** How many pairs are at rest, and behind that the least of them, if there is one. */
    private static int[] atRest(int v, int c) {
        int pairs = 0;
        int least = -1;
        for (int pair = 0; pair < 100; pair++) {
            boolean rests = true;
            for (int hours = 0; hours < 10; hours++) {
                rests &= gets(hours, pair % 10, v, c) <= gets(pair / 10, pair % 10, v, c);
                rests &= gets(hours, pair / 10, v, c) <= gets(pair % 10, pair / 10, v, c);
            }
            pairs += rests ? 1 : 0;
            least = rests && least < 0 ? pair : least;
        }
        return least < 0 ? new int[] {0} : new int[] {pairs, least / 10, least % 10};
    }

    private static int gets(int own, int other, int v, int c) {
        return (own > other ? v : own == other ? v / 2 : 0) - own * c;
    }

    /** Three HOUSES, five THINGS of one KIND, MOST 1: the hours are gone through once more, with longs. */
    private static void yearsAsDrawn(int seed, int n) {
        TwoAtMost x = Check.town(3, "a0;a1;a2;a0;a-", "a");
        x.set(1);
        int[] owner = {0, 1, 2, 0, -1};
        long random = seed & 0xffffffffL;
        int given = 0;
        int taken = 0;
        for (int hour = 0; hour < n; hour++) {
            random = (random * 1103515245L + 12345) & 0xffffffffL;
            int thing = (int) (random / 65536 % 5);
            random = (random * 1103515245L + 12345) & 0xffffffffL;
            int house = (int) (random / 65536 % 3);
            if (owner[thing] >= 0) {
                owner[thing] = house;
                given++;
            }
            boolean first = true;
            for (int i = 0; i < 5; i++) {
                if (owner[i] == hour % 3) {
                    taken += first ? 0 : 1;
                    owner[i] = first ? owner[i] : -1;
                    first = false;
                }
            }
        }
        int breaking = 0;
        for (int house = 0; house < 3; house++) {
            int which = house;
            breaking += Arrays.stream(owner).filter(o -> o == which).count() > 1 ? 1 : 0;
        }
        Check.is("years(" + seed + ", " + n + ")", x.years(seed, n), taken);
        Check.row("years(" + seed + ", " + n + ")", x, given, breaking);
    }

    private static TwoAtMost keptTwice() {
        TwoAtMost x = Check.town(2, "a0", "a");
        x.keep(0);
        x.keep(1);
        return x;
    }

    private static void refusedBoth(TwoAtMost x) {
        x.hours(3);
        Check.is("0", x.again(0), false);
        Check.is("1", x.again(1), false);
        Check.is("HOUR stays", x.count(4), 3);
        Check.is("what can be undone stays", x.count(9), 1);
        x.keep(0);
        Check.is("kept anew", x.again(0), true);
        Check.is("the other not", x.again(1), false);
    }
}
