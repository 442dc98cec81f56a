/** Promises 14 to 21: each sentence that names a bound or a refusal has a test of its own, and its words stand above it. */
public final class ActsEdgeTest {
    private static final int LEAST = Integer.MIN_VALUE;
    private static final int GREATEST = Integer.MAX_VALUE;

    public static void main(String[] args) {
        Check.runAll(ActsEdgeTest.class);
    }

    /** Promise 14: "A HOUSE buys a THING that is nobody's, for WORTH: COINS that are left." */
    static void promise14Bought() {
        TwoAtMost x = Check.town(2, "abc-;-", "a");
        Check.is("COINS left", x.buy(0, 1), 90);
        Check.is("OWNER", x.thing(0, 1), 1);
        Check.is("KEEPER", x.thing(0, 2), 1);
        Check.is("COINS", x.house(1, 2), 90);
        Check.is("COINS of the other", x.house(0, 2), 100);
        Check.is("for nothing", x.buy(1, 0), 100);
    }

    /** Promise 14: "-2: it is somebody's". */
    static void promise14Somebodys() {
        TwoAtMost x = Check.town(3, "a0;b0", "");
        x.lend(1, 1);
        Check.is("its own", x.buy(0, 0), -2);
        Check.is("another's", x.buy(0, 1), -2);
        Check.is("lent to it", x.buy(1, 1), -2);
        Check.is("asked ahead of COINS", broke("a0").buy(0, 1), -2);
        Twins.changesNothing("somebody's", -2, t -> t.buy(0, 1));
    }

    /** Promise 14: "-3: COINS are too few": WORTH itself is enough. */
    static void promise14CoinsTooFew() {
        for (int coins = 0; coins <= 4; coins++) {
            TwoAtMost x = Check.town(1, "a-", "");
            x.sheet(2, 1, coins, 0);
            Check.is(coins + " for 3", x.buy(0, 0), coins < 3 ? -3 : coins - 3);
        }
        TwoAtMost y = Check.town(1, "a-", "");
        Check.rule(y, "999");
        y.sheet(2, 1, 998, 0);
        Check.is("998 for 999", y.buy(0, 0), -3);
        y.sheet(2, 1, 999, 0);
        Check.is("999 for 999", y.buy(0, 0), 0);
        Check.is("nothing for nothing", broke("-").buy(0, 0), 0);
        Twins.changesNothing("too few", -3, t -> {
            t.sheet(3, 0, 0, 0);
            int answer = t.buy(4, 1);
            t.sheet(2, 3, 50, 7);
            return answer;
        });
    }

    /** Promise 14: "-4: the HOUSE would BREAK a KIND of it": of MOST it may get the last, not one more. */
    static void promise14WouldBreak() {
        for (int most = 1; most <= 4; most++) {
            TwoAtMost x = Check.town(2, "a-;a-;a-;a-;a-", "a");
            x.set(most);
            for (int thing = 0; thing < most; thing++) {
                Check.is("MOST " + most + ", buys " + thing, x.buy(thing, 0), 100 - 4 * (thing + 1));
            }
            Check.is("one more than " + most, x.buy(most, 0), -4);
            Check.is("the other may", x.buy(most, 1), 96);
        }
        Twins.changesNothing("would break", -4, t -> {
            t.paint(4, 0);
            int answer = t.buy(4, 0);
            t.undo();
            return answer;
        });
    }

    /** Promise 14: "a KIND of it" alone: one that it is not of may be broken. */
    static void promise14AnotherKindMayBeBroken() {
        TwoAtMost x = Check.town(1, "a0;a0;a0;b-;ab-", "a;b");
        Check.is("not of it", x.buy(3, 0), 96);
        Check.is("of what is broken", x.buy(4, 0), -4);
    }

    /** Promise 14: "-4": each of the six KINDS counts, the last one too. */
    static void promise14EachOfSixKinds() {
        for (int kind = 0; kind < 6; kind++) {
            char trait = (char) ('a' + kind);
            TwoAtMost x = Check.town(1, trait + "0;" + trait + "-;" + trait + "-;abcdef-", "a;b;c;d;e;f");
            Check.is("two of KIND " + kind, x.buy(1, 0), 96);
            Check.is("a third of KIND " + kind, x.buy(2, 0), -4);
            Check.is("one of all KINDS", x.buy(3, 0), -4);
        }
    }

    /** Promise 14: "a KIND of it", as it is painted now: what is painted off counts no more. */
    static void promise14AsItIsPainted() {
        TwoAtMost x = Check.town(1, "a-;a0;a0", "a;b");
        Check.is("a third one", x.buy(0, 0), -4);
        x.paint(0, 0);
        Check.is("it is no such any more", x.buy(0, 0), 100);
        x.undo();
        x.undo();
        Check.is("a third one again", x.buy(0, 0), -4);
        x.paint(2, 0);
        Check.is("one that is kept is none", x.buy(0, 0), 96);
    }

    /** Promise 14: the KINDS go by what the HOUSE keeps, not by what it owns. */
    static void promise14ByWhatItKeeps() {
        TwoAtMost x = Check.town(2, "a0;a0;a-;a-", "a");
        x.lend(0, 1);
        x.lend(1, 1);
        Check.is("owns two, keeps none", x.buy(2, 0), 96);
        Check.is("owns none, keeps two", x.buy(3, 1), -4);
    }

    /** Promise 14: "-3" is asked ahead of "-4". */
    static void promise14CoinsAheadOfBreaking() {
        TwoAtMost x = broke("a0;a0;a-");
        Check.is("both", x.buy(2, 0), -3);
    }

    /** Promise 14: "NONE: none such." */
    static void promise14NoneSuch() {
        TwoAtMost x = Check.town(3, "a-;b-", "");
        Check.none("THINGS", x.buy(2, 0), x.buy(-1, 0), x.buy(LEAST, 0), x.buy(GREATEST, 0));
        Check.none("HOUSES", x.buy(0, 3), x.buy(0, -1), x.buy(0, LEAST), x.buy(0, GREATEST));
        Check.is("the last of both", x.buy(1, 2), 97);
        Check.none("ahead of somebody's", x.buy(1, 3));
        Twins.changesNothing("THING 6", -1, t -> t.buy(6, 0));
        Twins.changesNothing("HOUSE 3", -1, t -> t.buy(4, 3));
    }

    /** Promise 15: "A THING that its OWNER keeps is given to another HOUSE: who owned it. (It may BREAK something.)" */
    static void promise15Given() {
        TwoAtMost x = Check.town(2, "a0;a1;a1", "a");
        Check.is("who owned it", x.give(0, 1), 0);
        Check.is("OWNER", x.thing(0, 1), 1);
        Check.is("KEEPER", x.thing(0, 2), 1);
        Check.is("a third one", x.house(1, 3), 1);
        Check.is("given back", x.give(0, 0), 1);
    }

    /** Promise 15: "-2: nobody's". */
    static void promise15Nobodys() {
        TwoAtMost x = Check.town(2, "a-", "");
        Check.is("to 0", x.give(0, 0), -2);
        Check.is("to 1", x.give(0, 1), -2);
        Twins.changesNothing("nobody's", -2, t -> t.give(4, 0));
    }

    /** Promise 15: "-2: .. or lent", to whomever. */
    static void promise15Lent() {
        TwoAtMost x = Check.town(3, "a0", "");
        x.lend(0, 1);
        Check.is("to its OWNER", x.give(0, 0), -2);
        Check.is("to its KEEPER", x.give(0, 1), -2);
        Check.is("to another", x.give(0, 2), -2);
        x.lend(0, 0);
        Check.is("called back", x.give(0, 2), 0);
        Twins.changesNothing("lent", -2, t -> t.give(1, 2));
    }

    /** Promise 15: "-3: that HOUSE owns it". */
    static void promise15OwnsIt() {
        TwoAtMost x = Check.town(2, "a0;b1", "");
        Check.is("0", x.give(0, 0), -3);
        Check.is("1", x.give(1, 1), -3);
        Twins.changesNothing("owns it", -3, t -> t.give(0, 0));
    }

    /** Promise 15: "NONE: none such." */
    static void promise15NoneSuch() {
        TwoAtMost x = Check.town(3, "a0;b0", "");
        Check.none("THINGS", x.give(2, 0), x.give(-1, 0), x.give(LEAST, 0), x.give(GREATEST, 0));
        Check.none("HOUSES", x.give(0, 3), x.give(0, -1), x.give(0, LEAST), x.give(0, GREATEST));
        Check.is("the last of both", x.give(1, 2), 0);
        Twins.changesNothing("THING 6", -1, t -> t.give(6, 0));
        Twins.changesNothing("HOUSE 3", -1, t -> t.give(4, 3));
        Twins.changesNothing("HOUSE -1", -1, t -> t.give(0, -1));
    }

    /** Promise 16: "(by its OWNER, also from another HOUSE where it is; to the OWNER: it is called back): which HOUSE kept it". */
    static void promise16Lent() {
        TwoAtMost x = Check.town(3, "a1", "");
        Check.is("lent", x.lend(0, 0), 1);
        Check.is("OWNER stays", x.thing(0, 1), 1);
        Check.is("KEEPER", x.thing(0, 2), 0);
        Check.is("from another HOUSE", x.lend(0, 2), 0);
        Check.is("OWNER stays still", x.thing(0, 1), 1);
        Check.is("called back", x.lend(0, 1), 2);
        Check.is("not lent", x.thing(0, 4), 0);
    }

    /** Promise 16: it may BREAK something: no answer forbids it. */
    static void promise16MayBreak() {
        TwoAtMost x = Check.town(2, "a0;a1;a1", "a");
        Check.is("a third one", x.lend(0, 1), 0);
        Check.is("broken", x.house(1, 3), 1);
    }

    /** Promise 16: "-2: nobody's". */
    static void promise16Nobodys() {
        TwoAtMost x = Check.town(2, "a-", "");
        Check.is("to 0", x.lend(0, 0), -2);
        Check.is("to 1", x.lend(0, 1), -2);
        Twins.changesNothing("nobody's", -2, t -> t.lend(4, 2));
    }

    /** Promise 16: "-3: it is kept there", by its OWNER or another. */
    static void promise16KeptThere() {
        TwoAtMost x = Check.town(2, "a0", "");
        Check.is("its OWNER", x.lend(0, 0), -3);
        x.lend(0, 1);
        Check.is("another", x.lend(0, 1), -3);
        Twins.changesNothing("its OWNER", -3, t -> t.lend(0, 0));
        Twins.changesNothing("another", -3, t -> t.lend(1, 0));
    }

    /** Promise 16: "NONE: none such." */
    static void promise16NoneSuch() {
        TwoAtMost x = Check.town(3, "a0;b0", "");
        Check.none("THINGS", x.lend(2, 0), x.lend(-1, 0), x.lend(LEAST, 0), x.lend(GREATEST, 0));
        Check.none("HOUSES", x.lend(0, 3), x.lend(0, -1), x.lend(0, LEAST), x.lend(0, GREATEST));
        Check.is("the last of both", x.lend(1, 2), 0);
        Twins.changesNothing("THING 6", -1, t -> t.lend(6, 0));
        Twins.changesNothing("HOUSE 3", -1, t -> t.lend(4, 3));
    }

    /** Promise 17: "if the HOUSE that keeps it BREAKS a KIND of it, the claimer owns and keeps it: who owned it". */
    static void promise17Claimed() {
        TwoAtMost x = Check.town(3, "a0;a0;a1;b0", "b;a");
        x.lend(2, 0);
        Check.is("who owned it, not who kept it", x.claim(2, 2), 1);
        Check.is("OWNER", x.thing(2, 1), 2);
        Check.is("KEEPER", x.thing(2, 2), 2);
        TwoAtMost y = Check.town(2, "a0;a0;a0", "a");
        Check.is("any of the three", y.claim(0, 1), 0);
    }

    /** Promise 17: the claimer may BREAK something then, and keeps the COINS. */
    static void promise17ClaimerMayBreak() {
        TwoAtMost x = Check.town(2, "a0;a0;a0;a1;a1", "a");
        Check.is("claimed", x.claim(0, 1), 0);
        Check.is("broken", x.house(1, 3), 1);
        Check.is("COINS", x.house(1, 2), 100);
        Check.is("claimed back", x.claim(3, 0), 1);
    }

    /** Promise 17: "-2: nobody's". */
    static void promise17Nobodys() {
        TwoAtMost x = Check.town(2, "a-;a0;a0;a0", "a");
        Check.is("nobody's", x.claim(0, 0), -2);
        Twins.changesNothing("nobody's", -2, t -> t.claim(4, 0));
    }

    /** Promise 17: "-3: the claimer keeps it". */
    static void promise17ClaimerKeepsIt() {
        TwoAtMost x = Check.town(2, "a0;a0;a1;b1", "a");
        x.lend(2, 0);
        Check.is("keeps and owns it", x.claim(0, 0), -3);
        Check.is("keeps it alone", x.claim(2, 0), -3);
        Check.is("asked ahead of -4", x.claim(3, 1), -3);
        Twins.changesNothing("keeps it alone", -3, t -> t.claim(1, 0));
    }

    /** Promise 17: "-3: .. or owns it". */
    static void promise17ClaimerOwnsIt() {
        TwoAtMost x = Check.town(2, "a0;a0;a1", "a");
        x.lend(2, 0);
        Check.is("owns it alone", x.claim(2, 1), -3);
        Twins.changesNothing("owns it alone", -3, t -> t.claim(1, 1));
    }

    /** Promise 17: "-4: it is no such": just MOST are kept. */
    static void promise17NoSuch() {
        for (int most = 1; most <= 4; most++) {
            TwoAtMost x = Check.town(2, "a0;a0;a0;a0;a0", "a");
            x.set(most);
            for (int thing = most; thing < 5; thing++) {
                Check.is("MOST " + most + ", claims " + thing, x.claim(thing, 1), 0);
            }
            Check.is("MOST " + most + " are left", x.claim(0, 1), -4);
        }
        Twins.changesNothing("no such", -4, t -> t.claim(3, 0));
    }

    /** Promise 17: "-4": the HOUSE BREAKS a KIND, but none of the THING's. */
    static void promise17AnotherKind() {
        TwoAtMost x = Check.town(2, "a0;a0;a0;b0;0", "a;b");
        Check.is("of another KIND", x.claim(3, 1), -4);
        Check.is("of no KIND", x.claim(4, 1), -4);
    }

    /** Promise 17: "the HOUSE that keeps it", not the one that owns it. */
    static void promise17ByTheKeeper() {
        TwoAtMost x = Check.town(3, "a0;a0;a0;a0", "a");
        x.lend(3, 1);
        Check.is("its OWNER breaks, its KEEPER not", x.claim(3, 2), -4);
    }

    /** Promise 17: "NONE: none such." */
    static void promise17NoneSuch() {
        TwoAtMost x = Check.town(3, "a0;a0;a0", "a");
        Check.none("THINGS", x.claim(3, 1), x.claim(-1, 1), x.claim(LEAST, 1), x.claim(GREATEST, 1));
        Check.none("HOUSES", x.claim(0, 3), x.claim(0, -1), x.claim(0, LEAST), x.claim(0, GREATEST));
        Check.is("the last of both", x.claim(2, 2), 0);
        Twins.changesNothing("THING 6", -1, t -> t.claim(6, 0));
        Twins.changesNothing("HOUSE 3", -1, t -> t.claim(0, 3));
    }

    /** Promise 18: "A TRAIT (0 .. 5) of a THING is painted on, or off: its TRAITS then." */
    static void promise18Painted() {
        TwoAtMost x = Check.town(1, "-;bd0", "a");
        for (int trait = 0; trait < 6; trait++) {
            Check.is("on " + trait, x.paint(0, trait), (2 << trait) - 1);
        }
        for (int trait = 5; trait >= 0; trait--) {
            Check.is("off " + trait, x.paint(0, trait), (1 << trait) - 1);
        }
        Check.is("the other", x.paint(1, 1), 8);
        Check.is("the other stays", x.thing(0, 0), 0);
    }

    /** Promise 18: "NONE: others": another TRAIT. */
    static void promise18AnotherTrait() {
        TwoAtMost x = Check.town(1, "a0", "");
        Check.none("TRAITS", x.paint(0, 6), x.paint(0, -1), x.paint(0, 32), x.paint(0, LEAST), x.paint(0, GREATEST));
        Check.is("TRAITS stay", x.thing(0, 0), 1);
        Twins.changesNothing("TRAIT 6", -1, t -> t.paint(0, 6));
        Twins.changesNothing("TRAIT -1", -1, t -> t.paint(0, -1));
    }

    /** Promise 18: "NONE: others": no such THING. */
    static void promise18NoSuchThing() {
        TwoAtMost x = Check.town(1, "a0;b0", "");
        Check.none("THINGS", x.paint(2, 0), x.paint(-1, 0), x.paint(LEAST, 0), x.paint(GREATEST, 0));
        Check.is("the last", x.paint(1, 0), 3);
        Twins.changesNothing("THING 6", -1, t -> t.paint(6, 0));
    }

    /** Promise 19: "n HOURS (0 .. 60)": none. */
    static void promise19None() {
        TwoAtMost x = Check.town(1, "a0;a0;a0", "a");
        x.rid(0);
        Check.is("none", x.hours(0), 0);
        Check.row("none", x, 0, 0);
        Check.is("HOUR", x.count(4), 0);
        Check.is("nothing is taken", x.house(0, 1), 7);
    }

    /** Promise 19: "n HOURS (0 .. 60)": one, and all sixty. */
    static void promise19OneAndSixty() {
        TwoAtMost x = Check.town(5, "a0;a0;a0;a4;a4;a4;a4", "a");
        Check.is("one", x.hours(1), 1);
        Check.row("one", x, 4, 1);
        Check.is("three: not yet there", x.hours(3), 0);
        Check.row("three", x, 0, 4);
        Check.is("the fifth", x.hours(1), 2);
        Check.row("the fifth", x, 32 + 64, 5);
        Check.is("sixty", x.hours(60), 0);
        Check.row("sixty", x, 0, 65);
        TwoAtMost y = Check.town(5, "a0;a0;a0;a4;a4;a4;a4", "a");
        Check.is("sixty at once", y.hours(60), 3);
        Check.row("sixty at once", y, 4 + 32 + 64, 60);
    }

    /** Promise 19: "NONE: another n." */
    static void promise19AnotherN() {
        TwoAtMost x = Check.town(1, "a0;a0;a0", "a");
        Check.none("others", x.hours(61), x.hours(-1), x.hours(LEAST), x.hours(GREATEST));
        Check.is("HOUR", x.count(4), 0);
        Check.is("nothing is taken", x.house(0, 1), 7);
        Twins.changesNothing("61", -1, t -> t.hours(61));
        Twins.changesNothing("-1", -1, t -> t.hours(-1));
    }

    /** Promise 20: "THE TEXT tells A DAY (an empty one: nothing)". */
    static void promise20Empty() {
        TwoAtMost x = Check.town(2, "a0;a0;a0", "a");
        x.rid(0);
        Check.is("none done", x.day(), 0);
        Check.row("one HOUSE breaks", x, 0, 1);
        Check.is("none to undo", x.count(9), 0);
        Check.is("HOUR", x.count(4), 0);
    }

    /** Promise 20: "a letter a .. l (THING)": the twelfth is l, an m can't stand there. */
    static void promise20LettersOfThings() {
        TwoAtMost x = Check.town(2, "0;0;0;0;0;0;0;0;0;0;0;0", "");
        Check.is("the first and the last", Check.day(x, "la1;gl1"), 2);
        Check.is("lent", x.thing(0, 2), 1);
        Check.is("given", x.thing(11, 1), 1);
        fault("bm0", 1);
        fault("b`0", 1);
        fault("pma", 1);
        fault("b00", 1);
        fault("bA0", 1);
    }

    /** Promise 20: a letter of a THING that is not there can be read: the ACT can't be done. */
    static void promise20LetterOfNoThing() {
        TwoAtMost x = Check.town(2, "a0", "");
        Check.is("the second is none", Check.day(x, "la1;lb1;la0"), 1);
        Check.row("it could not be", x, 1, 0);
        Check.is("what is ahead was done", x.thing(0, 2), 1);
        Check.is("painted", Check.day(x, "pba"), 0);
        Check.row("painted", x, 1, 0);
    }

    /** Promise 20: "a digit (HOUSE)": one of no HOUSE can be read: the ACT can't be done. */
    static void promise20DigitOfNoHouse() {
        TwoAtMost x = Check.town(5, "a0", "");
        Check.is("the last HOUSE", Check.day(x, "la4"), 1);
        Check.is("5", Check.day(x, "la5"), 0);
        Check.row("5", x, 1, 0);
        Check.is("9", Check.day(x, "la0;la9"), 1);
        Check.row("9", x, 1, 0);
        fault("la/", 2);
        fault("la:", 2);
        fault("laa", 2);
        fault("la-", 2);
    }

    /** Promise 20: "p, a letter a .. l, a letter a .. f". */
    static void promise20Painted() {
        TwoAtMost x = Check.town(1, "0", "");
        Check.is("the first and the last", Check.day(x, "paa;paf"), 2);
        Check.is("TRAITS", x.thing(0, 0), 33);
        fault("pag", 2);
        fault("pa`", 2);
        fault("pa0", 2);
    }

    /** Promise 20: "h and a number (1 or 2 digits): hours()". */
    static void promise20Hours() {
        TwoAtMost x = new TwoAtMost();
        Check.is("one digit", Check.day(x, "h9"), 1);
        Check.is("HOUR", x.count(4), 9);
        Check.is("two digits", Check.day(x, "h09;h60;h0;h00"), 4);
        Check.is("HOUR then", x.count(4), 78);
        Check.is("61 can't be", Check.day(x, "h1;h61;h1"), 1);
        Check.row("61", x, 1, 0);
        Check.is("99 can't be", Check.day(x, "h99"), 0);
        Check.is("HOUR at last", x.count(4), 79);
        fault("h", 1);
        fault("h100", 3);
        fault("h000", 3);
        fault("h-1", 1);
        fault("ha", 1);
        fault("h;", 1);
        fault("h/", 1);
        fault("h:", 1);
        fault("h1/", 2);
        fault("h1:", 2);
    }

    /** Promise 20: "they are done one by one, till one can't be (it answers below 0): how many were done". */
    static void promise20TillOneCannotBe() {
        stops("ba0", 0);
        stops("pab;ba1", 1);
        stops("ga1;ga1", 1);
        stops("la1;la1", 1);
        stops("la1;ga0", 1);
        stops("la1;ca0", 1);
        stops("h1;cb1;h1", 1);
        stops("h0;bc1;bc1", 2);
    }

    /** Promise 20: of A DAY just its own ACTS are done, none that a longer one ahead of it had. */
    static void promise20ShorterBehindLonger() {
        TwoAtMost x = Check.town(2, "a0", "");
        Check.is("three", Check.day(x, "h1;h2;h4"), 3);
        Check.is("one", Check.day(x, "h8"), 1);
        Check.row("one", x, 0, 0);
        Check.is("HOUR", x.count(4), 15);
        Check.is("none", x.day(), 0);
        Check.row("none", x, 0, 0);
        Check.is("HOUR then", x.count(4), 15);
    }

    /** Promise 20: what answers 0 is done: a THING of HOUSE 0 given, lent; no THING taken; all COINS spent. */
    static void promise20ZeroIsDone() {
        TwoAtMost x = Check.town(2, "a0;b0;c-;1", "");
        x.sheet(2, 2, 3, 0);
        Check.is("all of them", Check.day(x, "ga1;lb1;bc0;h0;h3;paa"), 6);
        Check.row("all of them", x, 0, 0);
        Check.is("COINS are spent", x.house(0, 2), 0);
        Check.is("TRAITS are off", x.thing(0, 0), 0);
    }

    /** Promise 20: "the ROW: 1 if one could not be, else 0; how many HOUSES BREAK something then". */
    static void promise20Row() {
        TwoAtMost x = Check.town(3, "a0;a0;a0;a1;a1;a1;b2", "a");
        Check.is("two are broken", Check.day(x, "h0"), 1);
        Check.row("two are broken", x, 0, 2);
        Check.is("one is freed", Check.day(x, "ga2;ga2"), 1);
        Check.row("one is freed", x, 1, 1);
        Check.is("all are", Check.day(x, "h3"), 1);
        Check.row("all are", x, 0, 0);
    }

    /** Promise 20: "-1 - p: the sign at p can't stand there (as things()..); nothing is done then". */
    static void promise20SignThatCannotStand() {
        fault("x", 0);
        fault("a", 0);
        fault(";", 0);
        fault("1", 0);
        fault("B", 0);
        fault("h1 ", 2);
        fault("h1,h1", 2);
        fault("h1;;h1", 3);
        fault("la11", 3);
        fault("paaa", 3);
        fault("la1la0", 3);
        Twins.emptiesTextAlone("the last can't stand", "la1;pab;h5;x", -12, t -> t.day());
        Twins.emptiesTextAlone("the first can't stand", "x;la1", -1, t -> t.day());
    }

    /** Promise 20: as things(), "its end, if it ends too early". */
    static void promise20EndsTooEarly() {
        fault("b", 1);
        fault("la", 2);
        fault("p", 1);
        fault("pa", 2);
        fault("h", 1);
        fault("h1;", 3);
        fault("h1;la", 5);
        fault("h1;".repeat(20), 60);
        Twins.emptiesTextAlone("a ; at last", "la1;", -5, t -> t.day());
    }

    /** Promise 20: "60 signs": 60, if it has more and the first 60 could go on or end. */
    static void promise20MoreThan60() {
        String sixty = "h1;".repeat(19) + "h01";
        fault(sixty + ";", 60);
        fault(sixty + "1", 60);
        fault(sixty + "x", 60);
        fault("h1;".repeat(20) + "h1", 60);
        fault("h1;".repeat(20) + "xx", 60);
        fault("h1;".repeat(19) + "h;;1", 58);
        fault("h1;".repeat(19) + "h1x1", 59);
        fault("h1;".repeat(19) + "la1;", 60);
        fault("h01;".repeat(15) + "h1", 60);
    }

    /** Promise 20: just 60 signs can be read. */
    static void promise20Just60() {
        TwoAtMost x = Check.town(2, "a0", "");
        Check.is("twenty ACTS", Check.day(x, "h1;".repeat(19) + "h01"), 20);
        Check.is("HOUR", x.count(4), 20);
        Check.is("the last one is done", Check.day(x, "h1;".repeat(19) + "la1"), 20);
        Check.is("lent", x.thing(0, 4), 1);
        Check.is("59 signs", Check.day(x, "h1;".repeat(19) + "h1"), 20);
        Check.is("HOUR then", x.count(4), 59);
    }

    /** Promise 21: "The latest .. is undone: how many are left that can be." */
    static void promise21EachAct() {
        undoes("buy", x -> x.buy(4, 1));
        undoes("give", x -> x.give(3, 0));
        undoes("lend", x -> x.lend(3, 0));
        undoes("claim", x -> x.claim(0, 1));
        undoes("paint", x -> x.paint(0, 2));
        undoes("hours", x -> x.hours(3));
        undoes("day", x -> {
            x.end(0);
            return Check.day(x, "la1;pac;h4;be1");
        });
    }

    /** Promise 21: "of 12 that are kept, the latest ones". */
    static void promise21TwelveAreKept() {
        TwoAtMost x = Check.town(1, "0", "");
        for (int i = 1; i <= 11; i++) {
            x.hours(1);
        }
        Check.is("eleven", x.count(9), 11);
        x.hours(1);
        Check.is("twelve", x.count(9), 12);
        x.hours(1);
        Check.is("still twelve", x.count(9), 12);
        for (int left = 11; left >= 0; left--) {
            Check.is("undone", x.undo(), left);
            Check.is("HOUR", x.count(4), 1 + left);
        }
        Check.is("the first is lost", x.undo(), -1);
        Check.is("HOUR stays", x.count(4), 1);
        x.hours(1);
        Check.is("one anew", x.undo(), 0);
        Check.is("HOUR as ahead of it", x.count(4), 1);
    }

    /** Promise 21: "of 12 .. such as were done": what is refused behind twelve takes none of them away. */
    static void promise21RefusedBehindTwelve() {
        TwoAtMost x = Check.town(1, "0", "");
        for (int i = 0; i < 30; i++) {
            x.hours(1);
            if (i >= 11) {
                x.give(0, 0);
                x.paint(0, 6);
                x.hours(61);
                x.hours(0);
                Check.day(x, "ga0;h1");
                Check.day(x, "z");
                x.day();
            }
        }
        for (int left = 11; left >= 0; left--) {
            Check.is("undone", x.undo(), left);
            Check.is("HOUR", x.count(4), 18 + left);
        }
        Check.is("no more", x.undo(), -1);
    }

    /** Promise 21: "TRAITS .. are as ahead of it": so are the KINDS that a THING is of. */
    static void promise21KindsAsAhead() {
        TwoAtMost x = Check.town(2, "a0;a0;0", "a;b");
        x.paint(2, 0);
        x.paint(0, 1);
        Check.is("it BREAKS one", x.house(0, 3), 1);
        x.undo();
        Check.is("KINDS of the first", x.thing(0, 3), 1);
        x.undo();
        Check.is("KINDS of the last", x.thing(2, 3), 0);
        Check.is("THINGS of the KIND", x.kind(0, 2), 3);
        Check.is("it BREAKS none", x.house(0, 3), 0);
    }

    /** Promise 21: "of 12 ..": behind an undo there is room for one more. */
    static void promise21RoomBehindAnUndo() {
        TwoAtMost x = Check.town(1, "0", "");
        for (int i = 0; i < 15; i++) {
            x.hours(1);
        }
        Check.is("undone", x.undo(), 11);
        x.hours(2);
        Check.is("twelve again", x.count(9), 12);
        for (int left = 11; left >= 0; left--) {
            Check.is("undone", x.undo(), left);
            Check.is("HOUR", x.count(4), 3 + left);
        }
        Check.is("no more", x.undo(), -1);
    }

    /** Promise 21: "such as were done": not those that answered below 0. */
    static void promise21SuchAsWereDone() {
        TwoAtMost x = Check.town(2, "a0;b-", "a");
        int[] answers = {x.buy(0, 0), x.buy(2, 0), x.give(0, 0), x.give(1, 0), x.give(2, 0), x.lend(0, 0), x.lend(1, 0),
            x.lend(2, 0), x.claim(0, 1), x.claim(1, 1), x.claim(0, 0), x.claim(2, 0), x.paint(0, 6), x.hours(61)};
        for (int answer : answers) {
            Check.is("below 0", answer < 0, true);
        }
        x.sheet(3, 0, 0, 0);
        Check.is("too dear", x.buy(1, 0), -3);
        Check.is("none can be undone", x.count(9), 0);
    }

    /** Promise 21: "hours() of 1 and more". */
    static void promise21HoursOfOneAndMore() {
        TwoAtMost x = new TwoAtMost();
        x.hours(0);
        Check.is("of 0", x.count(9), 0);
        x.hours(1);
        Check.is("of 1", x.count(9), 1);
        x.hours(60);
        Check.is("of 60", x.count(9), 2);
        x.hours(0);
        Check.is("as one", x.undo(), 1);
        Check.is("HOUR", x.count(4), 1);
    }

    /** Promise 21: "day() of which one ACT was done, as one". */
    static void promise21DayOfWhichOneActWasDone() {
        TwoAtMost x = Check.town(2, "a0;a1", "");
        x.day();
        Check.is("an empty one", x.count(9), 0);
        Check.day(x, "ba0;h5");
        Check.is("none was done", x.count(9), 0);
        Check.day(x, "x");
        Check.is("unreadable", x.count(9), 0);
        Check.day(x, "la1;la1;h5");
        Check.is("the first was done", x.count(9), 1);
        Check.day(x, "h1;h2;gb0;h3");
        Check.is("four were done", x.count(9), 2);
        Check.is("four as one", x.undo(), 1);
        Check.is("HOUR", x.count(4), 0);
        Check.is("OWNER", x.thing(1, 1), 1);
        Check.is("the first day still stands", x.thing(0, 2), 1);
        Check.is("and that", x.undo(), 0);
        Check.is("KEEPER", x.thing(0, 2), 0);
        Check.day(x, "h0");
        Check.is("h0 is an ACT that was done", x.count(9), 1);
    }

    /** Promise 21: "OWNERS, KEEPERS, TRAITS, COINS, HOUR are as ahead of it"; nothing else is undone. */
    static void promise21NothingElse() {
        TwoAtMost x = Check.town(2, "a0;b-", "a");
        x.buy(1, 1);
        x.set(4);
        Check.rule(x, "7");
        x.heard(0, 1);
        Check.put(x, "zzz");
        x.broken();
        x.keep(1);
        x.undo();
        Check.is("COINS", x.house(1, 2), 100);
        Check.is("MOST", x.count(3), 4);
        Check.is("THE RULE", x.worth(0, 0), 7);
        Check.is("heard", x.count(8), 1);
        Check.is("THE TEXT", x.count(11), 3);
        Check.row("the ROW", x, 0, 0);
        Check.is("what is kept", x.again(1), true);
        Check.is("as kept", x.thing(1, 1), 1);
    }

    /** Promise 21: COINS are as ahead of it, also if a sheet has told others since. */
    static void promise21CoinsAsAhead() {
        TwoAtMost x = Check.town(2, "a0;b-", "a");
        x.paint(0, 1);
        x.sheet(2, 2, 5, 1);
        x.undo();
        Check.is("of 0", x.house(0, 2), 100);
        Check.is("of 1", x.house(1, 2), 100);
    }

    /** Promise 21: "Refused: none." */
    static void promise21None() {
        TwoAtMost x = Check.town(2, "a0", "a");
        Check.is("none yet", x.undo(), -1);
        x.paint(0, 1);
        Check.is("one", x.undo(), 0);
        Check.is("no more", x.undo(), -1);
        Check.is("TRAITS", x.thing(0, 0), 1);
        x.hours(0);
        x.rid(0);
        x.undo();
        Check.row("the ROW stays", x, 0);
    }

    /** Promise 21: "houses(), things(), kinds() and again() forget them". */
    static void promise21Forgotten() {
        forgets("houses()", x -> x.houses(3));
        forgets("houses() of as many", x -> x.houses(2));
        forgets("things()", x -> Check.things(x, "-"));
        forgets("kinds()", x -> Check.kinds(x, "a"));
        forgets("again()", x -> x.again(0) ? 1 : 0);
    }

    /** Promise 21: ".. if they are not refused". */
    static void promise21RefusedOnesForgetNothing() {
        Twins.changesNothing("houses()", -1, t -> t.houses(9));
        Twins.changesNothing("houses() too few", -1, t -> t.houses(1));
        Twins.emptiesTextAlone("things()", "zz", -1, t -> t.things());
        Twins.emptiesTextAlone("things() behind a sign", "b", -2, t -> t.things());
        Twins.emptiesTextAlone("kinds()", "zz", -1, t -> t.kinds());
        Twins.emptiesTextAlone("kinds() behind a sign", "bz", -2, t -> t.kinds());
        Twins.changesNothing("again()", 0, t -> t.again(1) ? 1 : 0);
    }

    /** Promise 21: "those that read an empty text do not". */
    static void promise21EmptyTextForgetsNothing() {
        Twins.emptiesTextAlone("things()", "", 0, t -> t.things());
        Twins.emptiesTextAlone("kinds()", "", 0, t -> t.kinds());
    }

    private static TwoAtMost broke(String things) {
        TwoAtMost x = Check.town(2, things, "a");
        x.sheet(3, 0, 0, 0);
        return x;
    }

    private static void fault(String text, int at) {
        TwoAtMost x = Check.town(2, "a0;b1", "a");
        x.rid(0);
        Check.is("day of '" + text + "'", Check.day(x, text), -1 - at);
        Check.is("text behind '" + text + "'", x.count(11), 0);
        Check.is("HOUR behind '" + text + "'", x.count(4), 0);
        Check.is("KEEPER behind '" + text + "'", x.thing(0, 2), 0);
        Check.is("undo behind '" + text + "'", x.count(9), 0);
        Check.row("ROW behind '" + text + "'", x, 0);
    }

    private static void stops(String text, int done) {
        TwoAtMost x = Check.town(2, "a0;b0;c-", "a");
        Check.is("day " + text, Check.day(x, text), done);
        Check.row("day " + text, x, 1, 0);
        Check.is("undo behind " + text, x.count(9), done > 0 ? 1 : 0);
        Check.is("HOUR behind " + text, x.count(4), text.startsWith("h1") ? 1 : 0);
    }

    private static void undoes(String act, Twins.Asked call) {
        Twins.changesNothing(act, 2, t -> {
            Check.is(act + " is done", call.in(t) >= 0, true);
            Check.is(act + " can be undone", t.count(9), 3);
            int left = t.undo();
            t.end(0);
            Check.put(t, "af2");
            t.broken();
            return left;
        });
    }

    private static void forgets(String what, Twins.Asked call) {
        TwoAtMost x = Check.town(2, "a0", "a");
        x.keep(0);
        x.paint(0, 1);
        x.paint(0, 2);
        Check.is(what + ": two", x.count(9), 2);
        Check.is(what + ": done", call.in(x) >= 0, true);
        Check.is(what + ": none", x.count(9), 0);
        Check.is(what + ": refused", x.undo(), -1);
    }
}
