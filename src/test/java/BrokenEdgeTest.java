/** Promises 22 to 28: each sentence that names a bound or a refusal has a test of its own, and its words stand above it. */
public final class BrokenEdgeTest {
    private static final int LEAST = Integer.MIN_VALUE;
    private static final int GREATEST = Integer.MAX_VALUE;

    public static void main(String[] args) {
        Check.runAll(BrokenEdgeTest.class);
    }

    /** Promise 22: nothing is there to be broken. */
    static void promise22Nothing() {
        TwoAtMost x = new TwoAtMost();
        Check.is("a new object", x.broken(), 0);
        Check.row("a new object", x, 0, 0);
        TwoAtMost y = Check.town(2, "a0;a0;a0", "");
        Check.is("no KINDS", y.broken(), 0);
        Check.row("no KINDS", y, 0, 0);
        TwoAtMost z = Check.town(2, "a-;a-;a-", "a");
        Check.is("nobody's", z.broken(), 0);
        Check.row("nobody's", z, 0, 0);
    }

    /** Promise 22: "HOUSES that BREAK something (bits)": the first and the last of five. */
    static void promise22Houses() {
        TwoAtMost x = Check.town(5, "a0;a0;a0;a4;a4;a4;a2;a2", "a");
        Check.is("first and last", x.broken(), 17);
        Check.row("first and last", x, 2, 2);
    }

    /** Promise 22: "how many KINDS they BREAK together": a KIND that two HOUSES BREAK counts for each. */
    static void promise22KindsTogether() {
        TwoAtMost x = Check.town(2, "ab0;ab0;ab0;a1;a1;a1", "a;b;a!c");
        Check.is("both", x.broken(), 3);
        Check.row("three of 0, two of 1", x, 5, 5);
    }

    /** Promise 22: "(of each HOUSE and KIND that it BREAKS those above MOST)". */
    static void promise22ThoseAboveMost() {
        for (int most = 1; most <= 4; most++) {
            TwoAtMost x = Check.town(2, "ab0;ab0;ab0;ab0;a0;b1;b1", "a;b");
            x.set(most);
            int ofA = Math.max(0, 5 - most);
            int ofB = Math.max(0, 4 - most);
            int inOther = Math.max(0, 2 - most);
            x.broken();
            Check.row("MOST " + most, x, (ofA > 0 ? 1 : 0) + (ofB > 0 ? 1 : 0) + (inOther > 0 ? 1 : 0), ofA + ofB + inOther);
        }
        Twins.changesRowAlone("broken()", t -> t.broken());
    }

    /** Promise 22: all that can be: twelve THINGS of six KINDS in one HOUSE. */
    static void promise22AllThatCanBe() {
        TwoAtMost x = all("0");
        x.set(1);
        Check.is("one HOUSE", x.broken(), 1);
        Check.row("six KINDS, eleven each", x, 6, 66);
    }

    /** Promise 23: "KINDS that a HOUSE would BREAK, if it kept a THING besides": just MOST are no breach. */
    static void promise23OneBesides() {
        for (int most = 1; most <= 4; most++) {
            TwoAtMost x = Check.town(2, "a0;a0;a0;a0;a1", "a");
            x.set(most);
            Check.is("four and one, MOST " + most, x.would(0, 4), 1);
            x.give(3, 1);
            Check.is("three and one, MOST " + most, x.would(0, 4), most < 4 ? 1 : 0);
            x.give(2, 1);
            Check.is("two and one, MOST " + most, x.would(0, 4), most < 3 ? 1 : 0);
        }
    }

    /** Promise 23: "(wherever that is; bits)": nobody's, another's, lent away. */
    static void promise23WhereverThatIs() {
        TwoAtMost x = Check.town(3, "ab0;ab0;ab-;ab1;ab0", "a;c;b");
        x.lend(4, 2);
        Check.is("nobody's", x.would(0, 2), 5);
        Check.is("another's", x.would(0, 3), 5);
        Check.is("its own, lent", x.would(0, 4), 5);
        Check.is("in an empty HOUSE", x.would(1, 0), 0);
        Check.is("it stays where it is", x.thing(3, 2), 1);
    }

    /** Promise 23: KINDS that it BREAKS now it would BREAK then, too. */
    static void promise23BrokenNow() {
        TwoAtMost x = Check.town(2, "a0;a0;a0;b1;ab1", "a;b");
        Check.is("of another KIND", x.would(0, 3), 1);
        Check.is("of that KIND", x.would(0, 4), 1);
    }

    /** Promise 23: "they (0, if it keeps it)", though it BREAKS something. */
    static void promise23KeepsIt() {
        TwoAtMost x = Check.town(2, "a0;a0;a0;b0;a1", "a");
        Check.is("one of three", x.would(0, 0), 0);
        Check.is("another", x.would(0, 3), 0);
        x.lend(4, 0);
        Check.is("keeps, does not own", x.would(0, 4), 0);
    }

    /** Promise 23: "NONE: none such." */
    static void promise23NoneSuch() {
        TwoAtMost x = Check.town(3, "a0;a1", "a");
        Check.none("HOUSES", x.would(3, 0), x.would(-1, 0), x.would(LEAST, 0), x.would(GREATEST, 0));
        Check.none("THINGS", x.would(0, 2), x.would(0, -1), x.would(0, LEAST), x.would(0, GREATEST), x.would(0, 32));
        Check.is("the last of both", x.would(2, 1), 0);
        Twins.changesNothing("HOUSE 3", -1, t -> t.would(3, 0));
        Twins.changesNothing("a question", 1, t -> t.would(0, 3));
    }

    /** Promise 24: "The fewest THINGS that a HOUSE must give away so that it BREAKS nothing": perhaps none. */
    static void promise24Nothing() {
        TwoAtMost x = Check.town(2, "a0;a0", "a");
        Check.is("two", x.rid(0), 0);
        Check.row("two", x, 0);
        Check.is("an empty HOUSE", x.rid(1), 0);
        Check.row("an empty HOUSE", x, 0);
    }

    /** Promise 24: the fewest: one THING of two KINDS goes ahead of two. */
    static void promise24Fewest() {
        TwoAtMost x = Check.town(1, "a0;a0;b0;b0;ab0", "a;b");
        Check.is("the one of both", x.rid(0), 1);
        Check.row("the one of both", x, 16);
        TwoAtMost y = all("0");
        y.set(1);
        Check.is("eleven of twelve", y.rid(0), 11);
        Check.row("eleven of twelve", y, 2047);
    }

    /** Promise 24: "(bits: of as few the least)". */
    static void promise24LeastOfAsFew() {
        TwoAtMost x = Check.town(1, "c0;a0;a0;a0", "a");
        Check.is("one of three", x.rid(0), 1);
        Check.row("the least", x, 2);
        TwoAtMost y = Check.town(1, "a0;b0;b0;b0;a0;a0", "a;b");
        Check.is("one of each", y.rid(0), 2);
        Check.row("the least of each", y, 3);
        TwoAtMost z = Check.town(1, "ab0;ac0;bc0;ab0;ac0;bc0", "a;b;c");
        // Of each KIND four: two of each must go; no three of one pattern will do.
        Check.is("three", z.rid(0), 3);
        Check.row("the least three", z, 1 + 2 + 4);
    }

    /** Promise 24: each of the six KINDS counts, the last one too. */
    static void promise24EachOfSixKinds() {
        for (int kind = 0; kind < 6; kind++) {
            char trait = (char) ('a' + kind);
            TwoAtMost x = Check.town(1, trait + "0;" + trait + "0;" + trait + "0;" + trait + "0", "a;b;c;d;e;f");
            Check.is("KIND " + kind, x.rid(0), 2);
            Check.row("KIND " + kind, x, 3);
        }
    }

    /** Promise 24: "NONE: none such." */
    static void promise24NoneSuch() {
        TwoAtMost x = Check.town(3, "a0;a2;a2;a2", "a");
        Check.none("HOUSES", x.rid(3), x.rid(-1), x.rid(LEAST), x.rid(GREATEST));
        Check.is("the last", x.rid(2), 1);
        Twins.changesNothing("HOUSE 3", -1, t -> t.rid(3));
        Twins.changesRowAlone("a question", t -> t.rid(0));
    }

    /** Promise 25: "The most of nobody's THINGS": perhaps none. */
    static void promise25Nothing() {
        TwoAtMost x = Check.town(2, "a0;a0;a-", "a");
        Check.is("it is full", x.most(0), 0);
        Check.row("it is full", x, 0, 0);
        TwoAtMost y = Check.town(2, "a0", "a");
        Check.is("none is nobody's", y.most(1), 0);
        Check.row("none is nobody's", y, 0, 0);
    }

    /** Promise 25: up to MOST and no more. */
    static void promise25UpToMost() {
        for (int most = 1; most <= 4; most++) {
            TwoAtMost x = Check.town(1, "a-;a-;a-;a-;a-", "a");
            x.set(most);
            Check.is("MOST " + most, x.most(0), most);
            Check.row("MOST " + most, x, (1 << most) - 1, 4 * most);
        }
        TwoAtMost y = Check.town(1, "-;-;-;-;-;-;-;-;-;-;-;-", "a");
        Check.is("all twelve are of no KIND", y.most(0), 12);
        Check.row("all twelve", y, 4095, 0);
    }

    /** Promise 25: "so that it BREAKS nothing that it does not BREAK now, and nothing more of what it does". */
    static void promise25NothingMoreOfWhatItBreaks() {
        TwoAtMost x = Check.town(2, "a0;a0;a0;a-;b-;ab-;-", "a;b");
        Check.is("of a none, of b one", x.most(0), 2);
        Check.row("of a none, of b one", x, 16 + 64, 4);
    }

    /** Promise 25: "(bits: of as many the least)". */
    static void promise25LeastOfAsMany() {
        TwoAtMost x = Check.town(1, "ab-;a-;b-;ab-;a-;b-", "a;b");
        Check.is("four", x.most(0), 4);
        Check.row("the least four", x, 2 + 4 + 16 + 32, 16);
        TwoAtMost y = Check.town(1, "a-;a-;a-;a0", "a");
        Check.is("one", y.most(0), 1);
        Check.row("the least one", y, 1, 4);
    }

    /** Promise 25: "WORTH of all as it is now": n is of now, and the sum goes above 999. */
    static void promise25WorthAsItIsNow() {
        TwoAtMost x = Check.town(2, "-;-;-;1", "");
        Check.rule(x, "n*100");
        Check.is("three", x.most(1), 3);
        Check.row("by one that is kept", x, 7, 300);
        Check.rule(x, "999");
        x.most(1);
        Check.row("above 999", x, 7, 2997);
        Check.rule(x, "h*10+i");
        x.most(1);
        Check.row("to that HOUSE", x, 7, 33);
    }

    /** Promise 25: each of the six KINDS counts, the last one too. */
    static void promise25EachOfSixKinds() {
        for (int kind = 0; kind < 6; kind++) {
            char trait = (char) ('a' + kind);
            TwoAtMost x = Check.town(1, trait + "-;" + trait + "-;" + trait + "-", "a;b;c;d;e;f");
            Check.is("KIND " + kind, x.most(0), 2);
            Check.row("KIND " + kind, x, 3, 8);
        }
    }

    /** Promise 25: COINS are not asked. */
    static void promise25WithoutCoins() {
        TwoAtMost x = Check.town(1, "a-", "a");
        x.sheet(3, 0, 0, 0);
        Check.is("no COINS", x.most(0), 1);
    }

    /** Promise 25: "NONE: none such." */
    static void promise25NoneSuch() {
        TwoAtMost x = Check.town(3, "a-", "a");
        Check.none("HOUSES", x.most(3), x.most(-1), x.most(LEAST), x.most(GREATEST));
        Check.is("the last", x.most(2), 1);
        Twins.changesNothing("HOUSE 3", -1, t -> t.most(3));
        Twins.changesRowAlone("a question", t -> t.most(2));
    }

    /** Promise 26: "(both have, or both have not)": none alike, all alike. */
    static void promise26NoneAndAll() {
        TwoAtMost x = Check.town(1, "abcdef0;0;ace-", "a;ace;b!a");
        Check.is("none", x.alike(0, 1), 0);
        Check.row("none", x, 0, 0);
        Check.is("all that both have not", x.alike(1, 1), 6);
        Check.row("all that both have not", x, 0, 0);
        Check.is("all that both have", x.alike(0, 0), 6);
        Check.row("all that both have", x, 63, 3);
        Check.is("half", x.alike(0, 2), 3);
        Check.row("half", x, 21, 3);
        Check.is("the other half", x.alike(2, 1), 3);
        Check.row("the other half", x, 0, 0);
    }

    /** Promise 26: "NONE: none such." */
    static void promise26NoneSuch() {
        TwoAtMost x = Check.town(1, "a0;b0;c-", "a");
        Check.none("the one", x.alike(3, 0), x.alike(-1, 0), x.alike(LEAST, 0), x.alike(GREATEST, 0));
        Check.none("the other", x.alike(0, 3), x.alike(0, -1), x.alike(0, LEAST), x.alike(0, GREATEST));
        Check.is("the last", x.alike(2, 0), 4);
        Twins.changesNothing("THING 6", -1, t -> t.alike(0, 6));
        Twins.changesRowAlone("a question", t -> t.alike(0, 3));
    }

    /** Promise 27: "HOUSES (bits) that keep THINGS of a HOUSE that are lent": perhaps none. */
    static void promise27None() {
        TwoAtMost x = Check.town(2, "a0;b1;c-", "");
        Check.is("none is lent", x.trust(0), 0);
        Check.row("none is lent", x, 0, 0);
        x.lend(1, 0);
        Check.is("it keeps another's", x.trust(0), 0);
        Check.row("it keeps another's", x, 0, 0);
        Check.is("nobody's are not lent", x.trust(1), 1);
        Check.row("nobody's are not lent", x, 2, 3);
    }

    /** Promise 27: "these THINGS (bits), their WORTH to it together": above 999, too. */
    static void promise27WorthTogether() {
        TwoAtMost x = Check.town(5, "4;4;4;3", "");
        x.lend(0, 0);
        x.lend(1, 3);
        x.lend(2, 0);
        x.lend(3, 4);
        Check.rule(x, "900+h+n*10");
        Check.is("two HOUSES", x.trust(4), 9);
        // HOUSE 4 keeps one THING, that is HOUSE 3's.
        Check.row("to the OWNER", x, 7, 3 * 914);
    }

    /** Promise 27: "NONE: none such." */
    static void promise27NoneSuch() {
        TwoAtMost x = Check.town(3, "a2", "");
        x.lend(0, 0);
        Check.none("HOUSES", x.trust(3), x.trust(-1), x.trust(LEAST), x.trust(GREATEST));
        Check.is("the last", x.trust(2), 1);
        Twins.changesNothing("HOUSE 3", -1, t -> t.trust(3));
        Twins.changesRowAlone("a question", t -> t.trust(1));
    }

    /** Promise 28: "In how many HOURS (0 ..: 0: the next one) the inspector comes to a HOUSE". */
    static void promise28InHowManyHours() {
        for (int houses = 1; houses <= 5; houses++) {
            TwoAtMost x = new TwoAtMost();
            x.houses(houses);
            for (int hour = 0; hour < 2 * houses; hour++) {
                for (int house = 0; house < houses; house++) {
                    Check.is("HOUR " + hour + ", HOUSE " + house + " of " + houses, x.visit(house),
                        Math.floorMod(house - hour, houses));
                }
                x.hours(1);
            }
        }
    }

    /** Promise 28: "THINGS that he takes from it then (bits; what he takes from others in HOURS till then is taken, too)". */
    static void promise28Takes() {
        TwoAtMost x = Check.town(3, "a0;a0;a0;a2;a2;a2;ab2", "b;a");
        Check.is("two hours on", x.visit(2), 2);
        Check.row("from it alone", x, 32 + 64);
        Check.is("now", x.visit(0), 0);
        Check.row("now", x, 4);
        Check.is("nothing to take", x.visit(1), 1);
        Check.row("nothing to take", x, 0);
        x.hours(1);
        Check.is("was there", x.visit(0), 2);
        Check.row("was there", x, 0);
        x.lend(3, 1);
        x.lend(4, 1);
        x.lend(5, 1);
        Check.is("lent ones", x.visit(1), 0);
        Check.row("lent ones", x, 32);
        Check.is("what he takes there is not here", x.visit(2), 1);
        Check.row("what he takes there is not here", x, 0);
    }

    /** Promise 28: "NONE: none such." */
    static void promise28NoneSuch() {
        TwoAtMost x = Check.town(3, "a0", "a");
        Check.none("HOUSES", x.visit(3), x.visit(-1), x.visit(LEAST), x.visit(GREATEST));
        Check.is("the last", x.visit(2), 2);
        Twins.changesNothing("HOUSE 3", -1, t -> t.visit(3));
        Twins.changesRowAlone("a question", t -> t.visit(0));
    }

    private static TwoAtMost all(String house) {
        return Check.town(1, ("ab" + house + ";").repeat(11) + "ab" + house, "a;b;ab;a!c;b!c;ab!cdef");
    }
}
