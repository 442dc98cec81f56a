/** Promises 29 to 37: each sentence that names a bound or a refusal has a test of its own, and its words stand above it. */
public final class ChangeEdgeTest {
    private static final int LEAST = Integer.MIN_VALUE;
    private static final int GREATEST = Integer.MAX_VALUE;

    public static void main(String[] args) {
        Check.runAll(ChangeEdgeTest.class);
    }

    /** Promise 29: "The fewest moves": perhaps none; KEEPERS as they are. */
    static void promise29NoMoves() {
        TwoAtMost x = Check.town(3, "a2;a0;b1", "a");
        Check.is("none is told", x.store(0), 0);
        Check.row("none is told", x);
        Check.is("all may stay", x.store(7), 0);
        Check.row("all may stay", x, 2, 0, 1);
    }

    /** Promise 29: "so that none BREAKS anything (all other THINGS stay)". */
    static void promise29AllOthersStay() {
        TwoAtMost x = Check.town(2, "a0;a0;a0;a1;a1", "a");
        Check.is("the other is full", x.store(1), -2);
        Check.is("two of them", x.store(3), -2);
        TwoAtMost y = Check.town(2, "a0;a0;a0;a1", "a");
        Check.is("the other has room", y.store(4), 1);
        Check.row("the other has room", y, 1);
    }

    /** Promise 29: the fewest moves go ahead of the least row. */
    static void promise29FewestAheadOfLeastRow() {
        TwoAtMost x = Check.town(3, "a2;a2;b2", "a");
        Check.is("none needs to move", x.store(7), 0);
        Check.row("none needs to move", x, 2, 2, 2);
        x.set(1);
        Check.is("one of two", x.store(3), 1);
        Check.row("the first to 0", x, 0, 2);
    }

    /** Promise 29: "KEEPERS of these, by their numbers: of as few the least row". */
    static void promise29LeastRow() {
        TwoAtMost x = Check.town(3, "a1;a1;a1;a0;a0", "a");
        Check.is("one of three", x.store(7), 1);
        // 1 1 2 is the least of 2 1 1, 1 2 1, 1 1 2: HOUSE 0 has no room.
        Check.row("one of three", x, 1, 1, 2);
        TwoAtMost y = Check.town(3, "a1;a1;a1", "a");
        Check.is("one of three, 0 has room", y.store(7), 1);
        Check.row("the first to 0", y, 0, 1, 1);
        Check.is("only the last is told", y.store(4), 1);
        Check.row("the last to 0", y, 0);
    }

    /** Promise 29: each of the six KINDS counts, the last one too. */
    static void promise29EachOfSixKinds() {
        for (int kind = 0; kind < 6; kind++) {
            char trait = (char) ('a' + kind);
            TwoAtMost x = Check.town(2, trait + "0;" + trait + "0;" + trait + "0", "a;b;c;d;e;f");
            Check.is("KIND " + kind, x.store(7), 1);
            Check.row("KIND " + kind, x, 0, 0, 1);
        }
    }

    /** Promise 29: told ones may change places with one another. */
    static void promise29ChangePlaces() {
        TwoAtMost x = Check.town(2, "a0;a0;ab0;b1;b1;ab1", "a;b");
        x.set(2);
        // HOUSE 0 has a a ab, HOUSE 1 b b ab: one of a for one of b frees both.
        Check.is("only one of each side", x.store(1 + 8), 2);
        Check.row("changed", x, 1, 0);
    }

    /** Promise 29: KEEPERS, not OWNERS: a lent THING moves from where it is. */
    static void promise29FromWhereItIs() {
        TwoAtMost x = Check.town(2, "a0;a1;a1", "a");
        x.lend(0, 1);
        Check.is("back to its OWNER is a move", x.store(1), 1);
        Check.row("back", x, 0);
        Check.is("it stays lent", x.thing(0, 2), 1);
    }

    /** Promise 29: "-2: it can't be". */
    static void promise29CannotBe() {
        TwoAtMost x = Check.town(2, "a0;a0;a0;a0;a0;b1", "a");
        Check.is("too many for all HOUSES", x.store(31), -2);
        Check.is("others break anyhow", x.store(32), -2);
        Check.is("none is told, but it is broken", x.store(0), -2);
        Twins.changesNothing("-2", -2, t -> t.store(0));
        TwoAtMost y = Check.town(1, "a0;a0;a0", "a");
        Check.is("no other HOUSE", y.store(7), -2);
    }

    /** Promise 29: "(of somebody's; 6 at most)", "-3: more than 6". */
    static void promise29SixAtMost() {
        TwoAtMost x = Check.town(3, "a0;a0;a0;a0;a0;a0;b0;b0", "a");
        Check.is("six", x.store(63), 4);
        Check.row("six", x, 0, 0, 1, 1, 2, 2);
        Check.is("seven", x.store(127), -3);
        Check.is("eight", x.store(255), -3);
        Check.is("asked ahead of -2", Check.town(1, "a0;a0;a0;a0;a0;a0;a0", "a").store(127), -3);
        Check.row("the ROW stays", x, 0, 0, 1, 1, 2, 2);
        TwoAtMost y = Check.town(1, "0;0;0;0;0;0;0;0;0;0;0;0", "");
        Check.is("the last six", y.store(63 << 6), 0);
        Check.is("all twelve", y.store(4095), -3);
    }

    /** Promise 29: "-3: .. or nobody's". */
    static void promise29Nobodys() {
        TwoAtMost x = Check.town(2, "a0;a-;b0", "a");
        Check.is("alone", x.store(2), -3);
        Check.is("among others", x.store(7), -3);
        Check.is("the others", x.store(5), 0);
        Twins.changesNothing("nobody's", -3, t -> t.store(16));
    }

    /** Promise 29: "NONE: bits of none such", ahead of all else. */
    static void promise29NoneSuch() {
        TwoAtMost x = Check.town(2, "a0;a-;b0", "a");
        Check.none("bits", x.store(8), x.store(15), x.store(8 + 2), x.store(-1), x.store(LEAST), x.store(GREATEST));
        Check.none("no THINGS", new TwoAtMost().store(1));
        Check.is("no THINGS, no bits", new TwoAtMost().store(0), 0);
        TwoAtMost y = Check.town(1, "0;0;0;0;0;0;0;0;0;0;0;0", "");
        Check.none("the thirteenth", y.store(4096), y.store(4096 + 1));
        Check.is("the twelfth", y.store(2048), 0);
        Twins.changesNothing("bit 6", -1, t -> t.store(64));
        Twins.changesNothing("the highest bit", -1, t -> t.store(LEAST | 1));
    }

    /** Promise 30: "The fewest KINDS to be struck so that a HOUSE BREAKS nothing": none, some, all. */
    static void promise30NoneToAll() {
        TwoAtMost x = Check.town(3, "ab0;ab0;ab0;a1;a1;a1;b2", "a;b;c;ab;a!b;b!a");
        Check.is("three", x.strike(0), 3);
        Check.row("three", x, 1 + 2 + 8);
        Check.is("two", x.strike(1), 2);
        Check.row("two", x, 1 + 16);
        Check.is("none", x.strike(2), 0);
        Check.row("none", x, 0);
        x.set(3);
        Check.is("MOST is more", x.strike(0), 0);
        Twins.changesRowAlone("a question", t -> t.strike(0));
    }

    /** Promise 30: "NONE: none such." */
    static void promise30NoneSuch() {
        TwoAtMost x = Check.town(3, "a2;a2;a2", "a");
        Check.none("HOUSES", x.strike(3), x.strike(-1), x.strike(LEAST), x.strike(GREATEST));
        Check.is("the last", x.strike(2), 1);
        Twins.changesNothing("HOUSE 3", -1, t -> t.strike(3));
    }

    /** Promise 31: "the TRAIT (that it neither must nor must not have)". */
    static void promise31NeitherMustNorMustNot() {
        TwoAtMost x = Check.town(1, "abf0;abf0;abf0", "b!a");
        // a and b are named already: c is the least.
        Check.is("c", x.border(), 2);
        Check.row("c", x, 0);
        TwoAtMost y = Check.town(1, "", "abc!de");
        Check.is("f alone", y.border(), 5);
        TwoAtMost z = Check.town(1, "", "abcdef;abcde!f;acdef");
        Check.is("b of the third", z.border(), 13);
    }

    /** Promise 31: "the fewest HOUSES BREAK something". */
    static void promise31FewestHouses() {
        TwoAtMost x = Check.town(3, "ab0;ab0;ab0;ac1;ac1;ac1;ad2;ad2;ad2;ae2", "a");
        // With any other TRAIT than e, f one HOUSE still BREAKS it.
        Check.is("e", x.border(), 4);
        Check.row("e", x, 0);
        TwoAtMost y = Check.town(2, "ab0;ab0;ab0;a1;a1;a1", "a;b");
        // KIND 0 with c: HOUSE 0 BREAKS b still.
        Check.is("KIND 0 with b", y.border(), 1);
        Check.row("one is left", y, 1);
    }

    /** Promise 31: "(of as good ones the least)". */
    static void promise31Least() {
        TwoAtMost x = Check.town(2, "a0", "f;e;d");
        Check.is("the first KIND and TRAIT", x.border(), 0);
        Check.row("none breaks", x, 0);
        TwoAtMost y = Check.town(1, "abcdef0;abcdef0;abcdef0", "ab;cd");
        // Nothing helps: all have all TRAITS.
        Check.is("no good at all", y.border(), 2);
        Check.row("still one", y, 1);
        TwoAtMost z = Check.town(5, "ab0;ab0;ab1;ab1;ab2;ab2;ab3;ab3;ab4;ab4", "a;b");
        z.set(1);
        Check.is("all five break b as well", z.border(), 1);
        Check.row("all five", z, 5);
    }

    /** Promise 31: "-2: there is none": no KINDS, or none with such a TRAIT. */
    static void promise31None() {
        Check.is("no KINDS", new TwoAtMost().border(), -2);
        TwoAtMost x = Check.town(2, "a0", "abc!def;abcdef");
        x.rid(0);
        Check.is("no TRAITS", x.border(), -2);
        Check.row("the ROW stays", x, 0);
        Check.kinds(x, "bcdef");
        Check.is("the third has one", x.border(), 12);
        Twins.changesRowAlone("a question", t -> t.border());
    }

    /** Promise 32: "so that neither BREAKS anything then": just MOST are no breach. */
    static void promise32NeitherBreaks() {
        TwoAtMost x = Check.town(2, "a0;a0;a0;b1;a1", "a");
        // Of a for b: 0 keeps two, 1 keeps two.
        Check.is("pairs", x.exchange(0, 1), 3);
        Check.row("the first", x, 0, 3);
        x.lend(4, 0);
        Check.is("four of a", x.exchange(0, 1), 0);
        TwoAtMost y = Check.town(2, "a0;a1;a1;a1", "a");
        Check.is("a for a frees none", y.exchange(0, 1), 0);
    }

    /** Promise 32: nothing need be broken now: all pairs count. */
    static void promise32NothingBroken() {
        TwoAtMost x = Check.town(2, "a0;a0;a1;b1", "a");
        Check.is("all four", x.exchange(0, 1), 4);
        Check.row("the first", x, 0, 2);
        TwoAtMost y = Check.town(2, "0;0;0;0;0;0;1;1;1;1;1;1", "");
        Check.is("all 36", y.exchange(1, 0), 36);
        Check.row("the first of 36", y, 6, 0);
    }

    /** Promise 32: "the ROW: the first (the least row ..)": by the one's THING, then the other's. */
    static void promise32LeastRow() {
        TwoAtMost x = Check.town(2, "b1;a0;a0;b1;a0;c1", "a;b");
        x.set(2);
        Check.is("one for the other", x.exchange(0, 1), 9);
        Check.row("one for the other", x, 1, 0);
        Check.is("turned", x.exchange(1, 0), 9);
        Check.row("turned", x, 0, 1);
    }

    /** Promise 32: "(.. nothing without)": the ROW has no number then. */
    static void promise32NothingWithout() {
        TwoAtMost x = Check.town(3, "a0;a0;a0;a0;b1", "a");
        x.broken();
        Check.is("none helps", x.exchange(0, 1), 0);
        Check.row("none helps", x);
        x.broken();
        Check.is("the other keeps nothing", x.exchange(1, 2), 0);
        Check.row("the other keeps nothing", x);
        x.broken();
        Check.is("the one keeps nothing", x.exchange(2, 1), 0);
        Check.row("the one keeps nothing", x);
    }

    /** Promise 32: "NONE: like ones". */
    static void promise32LikeOnes() {
        TwoAtMost x = Check.town(2, "a0;b0;a1", "a");
        Check.none("like ones", x.exchange(0, 0), x.exchange(1, 1));
        Twins.changesNothing("like ones", -1, t -> t.exchange(0, 0));
    }

    /** Promise 32: "NONE: .. none such". */
    static void promise32NoneSuch() {
        TwoAtMost x = Check.town(3, "a0;b2", "a");
        Check.none("the one", x.exchange(3, 0), x.exchange(-1, 0), x.exchange(LEAST, 0), x.exchange(GREATEST, 0));
        Check.none("the other", x.exchange(0, 3), x.exchange(0, -1), x.exchange(0, LEAST), x.exchange(0, GREATEST));
        Check.is("the last", x.exchange(0, 2), 1);
        Twins.changesNothing("HOUSE 3", -1, t -> t.exchange(0, 3));
        Twins.changesRowAlone("a question", t -> t.exchange(0, 1));
    }

    /** Promise 33: "sets of TRAITS a KIND could need (.. none, too)": all 64 where there are no THINGS. */
    static void promise33NoneToo() {
        TwoAtMost x = new TwoAtMost();
        Check.is("no THINGS", x.name(0), 64);
        Check.row("no TRAITS", x, 0);
        TwoAtMost y = Check.town(1, "-", "");
        Check.is("one without TRAITS", y.name(1), 1);
        Check.row("one without TRAITS", y, 0);
        Check.is("none of it", y.name(0), 63);
        Check.row("none of it", y, 1);
        TwoAtMost z = Check.town(1, "abcdef0;abcdef-", "");
        Check.is("all with all", z.name(3), 64);
        Check.row("all with all", z, 0);
        Check.is("none of those", z.name(0), 0);
        Check.row("none of those", z, -1);
    }

    /** Promise 33: "just THINGS told as bits are of it, of all THINGS": nobody's too. */
    static void promise33JustThese() {
        TwoAtMost x = Check.town(1, "ab0;abc-;c0", "");
        Check.is("the first two", x.name(3), 3);
        Check.row("the first two", x, 1);
        Check.is("the second", x.name(2), 3);
        Check.row("the second", x, 5);
        Check.is("the last two", x.name(6), 1);
        Check.row("the last two", x, 4);
    }

    /** Promise 33: "the one of the fewest TRAITS, of as few the least (bits; NONE)". */
    static void promise33FewestThenLeast() {
        TwoAtMost x = Check.town(1, "abf0;abc0;cf0", "");
        // a and b together are more than either alone; for the first a f or b f.
        Check.is("two of three", x.name(3), 3);
        Check.row("a, not b", x, 1);
        Check.is("the first", x.name(1), 3);
        Check.row("a f, not b f", x, 33);
        Check.is("the first and the last", x.name(5), 1);
        Check.row("f alone", x, 32);
        TwoAtMost y = Check.town(1, "abf0;ab0", "");
        Check.is("f is fewer than a b", y.name(1), 4);
        Check.row("f", y, 32);
        Check.is("no set", y.name(2), 0);
        Check.row("no set", y, -1);
    }

    /** Promise 33: "NONE: bits of none such." */
    static void promise33NoneSuch() {
        TwoAtMost x = Check.town(1, "a0;b0", "");
        Check.none("bits", x.name(4), x.name(5), x.name(-1), x.name(LEAST), x.name(GREATEST));
        Check.none("no THINGS", new TwoAtMost().name(1));
        TwoAtMost y = Check.town(1, "0;0;0;0;0;0;0;0;0;0;0;0", "");
        Check.is("all twelve", y.name(4095), 1);
        Check.none("a thirteenth", y.name(4096), y.name(8191));
        Twins.changesNothing("bit 6", -1, t -> t.name(64));
        Twins.changesRowAlone("a question", t -> t.name(1));
    }

    /** Promise 34: "Each HOUSE may get one of nobody's THINGS, or none": without such THINGS all get none. */
    static void promise34Nothing() {
        TwoAtMost x = new TwoAtMost();
        x.houses(5);
        Check.is("no THINGS", x.deal(), 0);
        Check.row("no THINGS", x, -1, -1, -1, -1, -1);
        TwoAtMost y = Check.town(1, "a0", "");
        Check.is("none is nobody's", y.deal(), 0);
        Check.row("none is nobody's", y, -1);
    }

    /** Promise 34: one each: twelve THINGS and five HOUSES, and five HOUSES for one THING. */
    static void promise34OneEach() {
        TwoAtMost x = Check.town(5, "-;-;-;-;-;-;-;-;-;-;-;-", "");
        Check.rule(x, "i+1");
        Check.is("the dearest five", x.deal(), 50);
        Check.row("the dearest five", x, 7, 8, 9, 10, 11);
        TwoAtMost y = Check.town(5, "a-", "");
        Check.rule(y, "h*h-2*h+3");
        Check.is("to whom it is worth the most", y.deal(), 11);
        Check.row("to whom it is worth the most", y, -1, -1, -1, -1, 0);
        Check.rule(y, "999");
        Check.is("the greatest WORTH", y.deal(), 999);
        Check.row("the least row is the last HOUSE's", y, -1, -1, -1, -1, 0);
    }

    /** Promise 34: the sum goes above 999. */
    static void promise34Sum() {
        TwoAtMost x = Check.town(5, "-;-;-;-;-", "");
        Check.rule(x, "999");
        Check.is("five of 999", x.deal(), 4995);
        Check.row("in their order", x, 0, 1, 2, 3, 4);
    }

    /** Promise 34: "none by which it would BREAK a KIND of it": just MOST are no breach. */
    static void promise34WouldBreak() {
        TwoAtMost x = Check.town(2, "a0;a0;a1;a-;a-", "a");
        Check.is("to 1 alone", x.deal(), 4);
        Check.row("to 1 alone", x, -1, 3);
        TwoAtMost y = Check.town(1, "a0;a0;a0;b-;ab-", "a;b");
        Check.is("of another KIND", y.deal(), 4);
        Check.row("of another KIND", y, 3);
    }

    /** Promise 34: each of the six KINDS counts, the last one too. */
    static void promise34EachOfSixKinds() {
        for (int kind = 0; kind < 6; kind++) {
            char trait = (char) ('a' + kind);
            TwoAtMost x = Check.town(1, trait + "0;" + trait + "0;" + trait + "-;-", "a;b;c;d;e;f");
            Check.rule(x, "i");
            Check.is("KIND " + kind, x.deal(), 3);
            Check.row("KIND " + kind, x, 3);
            x.paint(3, kind);
            Check.is("both of KIND " + kind, x.deal(), 0);
            Check.row("both of KIND " + kind, x, -1);
        }
    }

    /** Promise 34: "unlike ones": what one HOUSE gets no other gets, though it is worth more to it than another. */
    static void promise34UnlikeOnes() {
        TwoAtMost x = Check.town(2, "-;-", "");
        // To HOUSE 0 they are worth 0 and 11, to HOUSE 1 5 and 8.
        Check.rule(x, "(h=0)*i*11+h*(5+3*i)");
        Check.is("11 and 5", x.deal(), 16);
        Check.row("11 and 5", x, 1, 0);
        TwoAtMost y = Check.town(3, "-;-;0", "");
        Check.rule(y, "(i=1)*99+(i=2)*500");
        Check.is("the one that is worth something, once", y.deal(), 99);
        Check.row("the one that is worth something, once", y, -1, -1, 1);
    }

    /** Promise 34: COINS are not asked. */
    static void promise34WithoutCoins() {
        TwoAtMost x = Check.town(1, "a-", "");
        x.sheet(3, 0, 0, 0);
        Check.is("no COINS", x.deal(), 3);
    }

    /** Promise 34: "by HOUSES which (NONE): of as good ones the least row". */
    static void promise34LeastRow() {
        TwoAtMost x = Check.town(3, "a-;a-", "");
        Check.is("two of three", x.deal(), 6);
        Check.row("none to 0", x, -1, 0, 1);
        Check.rule(x, "0");
        Check.is("worth nothing", x.deal(), 0);
        Check.row("worth nothing", x, -1, -1, -1);
        Check.rule(x, "(h=0)*(1+i)");
        Check.is("to 0 alone", x.deal(), 2);
        Check.row("to 0 alone", x, 1, -1, -1);
        Twins.changesRowAlone("a question", t -> t.deal());
    }

    /** Promise 35: "frees the most HOUSES (that BREAK something now, and nothing then)". */
    static void promise35Frees() {
        TwoAtMost x = Check.town(5, "a0;a0;ab1;ab1;b2;b2;b3;b3;c4;c4", "a;b;c");
        x.set(1);
        Check.is("two of b", x.vote(), 1);
        Check.row("1 breaks both", x, 2);
        TwoAtMost y = Check.town(2, "ab0;ab0;ab0", "a;b");
        Check.is("none is freed by one", y.vote(), 0);
        Check.row("none is freed by one", y, 0);
    }

    /** Promise 35: "of equal ones the first". */
    static void promise35First() {
        TwoAtMost x = Check.town(3, "b0;b0;b0;c1;c1;c1", "a;b;c");
        Check.is("b and c", x.vote(), 1);
        Check.row("b and c", x, 1);
        TwoAtMost y = Check.town(2, "", "a;b");
        Check.is("none breaks", y.vote(), 0);
        Check.row("none breaks", y, 0);
    }

    /** Promise 35: "-2: there are no KINDS." */
    static void promise35NoKinds() {
        TwoAtMost x = Check.town(2, "a0;a0;a0", "");
        x.rid(0);
        Check.is("none", x.vote(), -2);
        Check.row("the ROW stays", x, 0);
        Check.kinds(x, "f");
        Check.is("one", x.vote(), 0);
        Twins.changesRowAlone("a question", t -> t.vote());
    }

    /** Promise 36: "sums of 1 .. v (1 .. 99)". */
    static void promise36Sums() {
        TwoAtMost x = new TwoAtMost();
        Check.is("v 1", x.pays(1, 1, 1), 1);
        Check.row("v 1", x, 2);
        Check.is("v 99", x.pays(50, 49, 99), 8);
        Check.row("v 99", x, 3);
        Check.is("v 98", x.pays(50, 49, 98), 7);
        Check.none("others", x.pays(1, 1, 0), x.pays(1, 1, 100), x.pays(1, 1, -1), x.pays(1, 1, LEAST), x.pays(1, 1, GREATEST));
        Twins.changesNothing("v 0", -1, t -> t.pays(1, 2, 0));
        Twins.changesNothing("v 100", -1, t -> t.pays(1, 2, 100));
    }

    /** Promise 36: "two coins of x and y (1 .. 50 each)". */
    static void promise36Coins() {
        TwoAtMost x = new TwoAtMost();
        Check.is("the least", x.pays(1, 1, 99), 4);
        Check.row("the least", x, 5);
        Check.is("the greatest", x.pays(50, 50, 99), 1);
        Check.row("the greatest", x, 1);
        Check.none("x", x.pays(0, 1, 1), x.pays(51, 1, 1), x.pays(-1, 1, 1), x.pays(LEAST, 1, 1), x.pays(GREATEST, 1, 1));
        Check.none("y", x.pays(1, 0, 1), x.pays(1, 51, 1), x.pays(1, -1, 1), x.pays(1, LEAST, 1), x.pays(1, GREATEST, 1));
        Check.row("the ROW stays", x, 1);
        Twins.changesNothing("x 51", -1, t -> t.pays(51, 2, 9));
        Twins.changesNothing("y 51", -1, t -> t.pays(2, 51, 9));
    }

    /** Promise 36: "two of each at most from one and two of each at most back from the other". */
    static void promise36TwoOfEach() {
        TwoAtMost x = new TwoAtMost();
        // 10 and 1: 1 2, 8 9 10 11 12, 18 19 20 21 22.
        int[] payable = {1, 2, 8, 9, 10, 11, 12, 18, 19, 20, 21, 22};
        int sums = 0;
        for (int v = 1; v <= 30; v++) {
            for (int sum : payable) {
                sums += sum == v ? 1 : 0;
            }
            Check.is("v " + v, x.pays(10, 1, v), sums);
            Check.is("v " + v + ", turned", x.pays(1, 10, v), sums);
            Check.row("v " + v, x, Math.min(3, v + 1));
        }
    }

    /** Promise 36: "the least that can't be (v + 1, if all can)". */
    static void promise36LeastThatCannotBe() {
        TwoAtMost x = new TwoAtMost();
        Check.is("all of 12", x.pays(1, 5, 12), 12);
        Check.row("all of 12", x, 13);
        Check.is("13 can't be", x.pays(1, 5, 13), 12);
        Check.row("13 can't be", x, 13);
        Check.is("1 can't be", x.pays(2, 4, 99), 6);
        Check.row("1 can't be", x, 1);
        Check.is("none can be", x.pays(50, 50, 49), 0);
        Check.row("none can be", x, 1);
        Twins.changesRowAlone("a question", t -> t.pays(1, 2, 3));
    }

    /** Promise 37: "The two unlike coins (1 .. 30) by which the most sums .. can be paid so". */
    static void promise37TheMost() {
        for (int v = 1; v <= 99; v++) {
            TwoAtMost x = new TwoAtMost();
            int best = 0;
            int lesser = 0;
            int greater = 0;
            for (int one = 1; one <= 30; one++) {
                for (int other = one + 1; other <= 30; other++) {
                    int sums = x.pays(one, other, v);
                    if (sums > best) {
                        best = sums;
                        lesser = one;
                        greater = other;
                    }
                }
            }
            Check.is("coins(" + v + ")", x.coins(v), best);
            Check.row("coins(" + v + ")", x, lesser, greater);
        }
    }

    /** Promise 37: "they, the lesser first: of as good ones the least row". */
    static void promise37LeastRow() {
        TwoAtMost x = new TwoAtMost();
        Check.is("v 1", x.coins(1), 1);
        Check.row("v 1", x, 1, 2);
        Check.is("v 6", x.coins(6), 6);
        Check.row("v 6", x, 1, 2);
        Check.is("v 7", x.coins(7), 7);
        Check.row("v 7", x, 1, 3);
        Check.is("v 12", x.coins(12), 12);
        Check.row("v 12", x, 1, 5);
        Check.is("v 99", x.coins(99), 12);
        Check.row("v 99", x, 1, 5);
    }

    /** Promise 37: "NONE: another v." */
    static void promise37AnotherV() {
        TwoAtMost x = new TwoAtMost();
        Check.none("others", x.coins(0), x.coins(100), x.coins(-1), x.coins(LEAST), x.coins(GREATEST));
        Twins.changesNothing("v 0", -1, t -> t.coins(0));
        Twins.changesNothing("v 100", -1, t -> t.coins(100));
        Twins.changesRowAlone("a question", t -> t.coins(9));
    }
}
