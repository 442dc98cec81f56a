/** The section 'Terms': each sentence that names a bound has a test of its own, and its words stand above it. */
public final class TermsEdgeTest {
    // How many questions answer() knows.
    private static final int QUESTIONS = 23;

    public static void main(String[] args) {
        Check.runAll(TermsEdgeTest.class);
    }

    /** Terms: "HOUSES 0 .. (1 .. 5 of them, at first 2)". */
    static void termsHousesOneToFive() {
        TwoAtMost x = new TwoAtMost();
        Check.is("at first", x.count(0), 2);
        Check.is("one", x.houses(1), 2);
        Check.is("none", x.houses(0), -1);
        Check.is("still one", x.count(0), 1);
        Check.is("five", x.houses(5), 1);
        Check.is("six", x.houses(6), -1);
        Check.is("still five", x.count(0), 5);
    }

    /** Terms: "MOST 1 .. 4 (at first 2)". */
    static void termsMostOneToFour() {
        TwoAtMost x = new TwoAtMost();
        Check.is("at first", x.count(3), 2);
        Check.is("one", x.set(1), 2);
        Check.is("none", x.set(0), -1);
        Check.is("still one", x.count(3), 1);
        Check.is("four", x.set(4), 1);
        Check.is("five", x.set(5), -1);
        Check.is("still four", x.count(3), 4);
    }

    /** Terms: "THINGS 0 .. (at most 12)". */
    static void termsThingsTwelveAtMost() {
        TwoAtMost x = new TwoAtMost();
        Check.is("eleven", Check.things(x, "-;-;-;-;-;-;-;-;-;-;-"), 11);
        Check.is("two more", Check.things(x, "-;-"), -3);
        Check.is("still eleven", x.count(1), 11);
        Check.is("the twelfth", Check.things(x, "f1"), 1);
        Check.is("twelve", x.count(1), 12);
        Check.is("its TRAITS", x.thing(11, 0), 32);
        Check.is("its OWNER", x.thing(11, 1), 1);
        Check.is("a thirteenth", Check.things(x, "-"), -1);
        Check.is("still twelve", x.count(1), 12);
    }

    /** Terms: "TRAITS (of six, a .. f: bits 0 .. 5)". */
    static void termsSixTraits() {
        for (int trait = 0; trait < 6; trait++) {
            TwoAtMost x = Check.town(1, (char) ('a' + trait) + "-", "");
            Check.is("trait " + trait, x.thing(0, 0), 1 << trait);
        }
        Check.is("a seventh", Check.things(new TwoAtMost(), "g-"), -1);
        Check.is("one ahead of the first", Check.things(new TwoAtMost(), "`-"), -1);
    }

    /** Terms: "an OWNER (a HOUSE or nobody), a KEEPER (the HOUSE where it is; nobody's THINGS have none)". */
    static void termsNobodysHaveNoKeeper() {
        TwoAtMost x = Check.town(1, "a-;b0", "");
        Check.is("OWNER", x.thing(0, 1), -1);
        Check.is("KEEPER", x.thing(0, 2), -1);
        Check.is("OWNER of the other", x.thing(1, 1), 0);
        Check.is("KEEPER of the other", x.thing(1, 2), 0);
    }

    /** Terms: THINGS "are told by a text of at most 76 signs". */
    static void termsThingsSeventySixSigns() {
        String nine = "abcdef0;".repeat(9);
        TwoAtMost x = new TwoAtMost();
        Check.is("76", Check.things(x, nine + "abc0"), 10);
        Check.is("77", Check.things(new TwoAtMost(), nine + "abcd0"), -77);
    }

    /** Terms: "letters of TRAITS (rising, none twice; perhaps none)". */
    static void termsTraitsPerhapsNone() {
        TwoAtMost x = Check.town(2, "-;1;abcdef-", "");
        Check.is("none of nobody's", x.thing(0, 0), 0);
        Check.is("none of somebody's", x.thing(1, 0), 0);
        Check.is("all", x.thing(2, 0), 63);
        Check.is("twice", Check.things(x, "bb0"), -2);
        Check.is("falling", Check.things(x, "acb0"), -3);
    }

    /** Terms: "then a digit (OWNER and KEEPER, a HOUSE that is there) or - (nobody)". */
    static void termsDigitOfAHouseThatIsThere() {
        for (int houses = 1; houses <= 5; houses++) {
            TwoAtMost x = new TwoAtMost();
            x.houses(houses);
            Check.is("the last of " + houses, Check.things(x, "a" + (houses - 1)), 1);
            Check.is("OWNER in the last", x.thing(0, 1), houses - 1);
            Check.is("one beyond " + houses, Check.things(x, "a" + houses), -2);
        }
    }

    /** Terms: "KINDS 0 .. (at most 6)". */
    static void termsKindsSixAtMost() {
        TwoAtMost x = new TwoAtMost();
        Check.is("five", Check.kinds(x, "a;b;c;d;e"), 5);
        Check.is("two more", Check.kinds(x, "a;b"), -3);
        Check.is("still five", x.count(2), 5);
        Check.is("the sixth", Check.kinds(x, "f!a"), 1);
        Check.is("six", x.count(2), 6);
        Check.is("it must have", x.kind(5, 0), 32);
        Check.is("it must not have", x.kind(5, 1), 1);
        Check.is("a seventh", Check.kinds(x, "a"), -1);
        Check.is("still six", x.count(2), 6);
    }

    /** Terms: "letters that it must have (rising, one at least)". */
    static void termsKindMustHaveOneAtLeast() {
        TwoAtMost x = new TwoAtMost();
        Check.is("none", Check.kinds(x, "!a"), -1);
        Check.is("none behind another", Check.kinds(x, "a;!b"), -3);
        Check.is("falling", Check.kinds(x, "fa"), -2);
        Check.is("twice", Check.kinds(x, "ff"), -2);
        Check.is("one", Check.kinds(x, "f"), 1);
    }

    /** Terms: "perhaps ! and letters that it must not (rising, one at least, unlike those)". */
    static void termsKindMustNotHaveOneAtLeast() {
        TwoAtMost x = new TwoAtMost();
        Check.is("none", Check.kinds(x, "a!"), -3);
        Check.is("none ahead of another", Check.kinds(x, "a!;b"), -3);
        Check.is("falling", Check.kinds(x, "a!cb"), -4);
        Check.is("twice", Check.kinds(x, "a!cc"), -4);
        Check.is("like those", Check.kinds(x, "ac!bc"), -5);
        Check.is("one", Check.kinds(x, "a!b"), 1);
        Check.is("all others", Check.kinds(x, "c!abdef"), 1);
        Check.is("must not", x.kind(1, 1), 59);
    }

    /** Terms: "A HOUSE BREAKS a KIND, if more than MOST of the THINGS that it keeps are of it." */
    static void termsBreaksIfMoreThanMost() {
        for (int most = 1; most <= 4; most++) {
            TwoAtMost x = Check.town(2, "a0;".repeat(most) + "b0", "a");
            x.set(most);
            Check.is("just " + most, x.house(0, 3), 0);
            Check.is("the first of " + most, x.count(7), 0);
            Check.is("a third one is none yet", x.claim(0, 1), -4);
            x.paint(most, 0);
            Check.is("one more than " + most, x.house(0, 3), 1);
            x.set(Math.max(1, most - 1));
            Check.is("MOST made less", x.house(0, 3), 1);
        }
    }

    /** Terms: it BREAKS by "the THINGS that it keeps", not by those that it owns. */
    static void termsBreaksByWhatItKeeps() {
        TwoAtMost x = Check.town(2, "a0;a0;a1", "a");
        x.lend(2, 0);
        Check.is("keeps three, owns two", x.house(0, 3), 1);
        x.lend(0, 1);
        x.give(2, 0);
        Check.is("keeps two", x.house(0, 3), 0);
        x.lend(2, 1);
        x.lend(1, 1);
        Check.is("owns, does not keep", x.house(0, 3), 0);
        Check.is("keeps, does not own", x.house(1, 3), 1);
    }

    /** Terms: a THING is of a KIND by all that it must have, and nothing that it must not have. */
    static void termsOfAKind() {
        TwoAtMost x = Check.town(1, "ab0;abc0;a0;abd0;abcdef0;0", "ab!cd");
        Check.is("THINGS of it", x.kind(0, 2), 1);
        TwoAtMost y = Check.town(1, "abcdef0;abcde0;0", "abcdef");
        Check.is("all six", y.kind(0, 2), 1);
    }

    /** Terms: "THE RULE is a text of at most 40 signs". */
    static void termsRuleFortySigns() {
        TwoAtMost x = Check.town(1, "a0", "");
        Check.is("40 signs", Check.rule(x, "1+".repeat(19) + "10"), 0);
        Check.is("its WORTH", x.worth(0, 0), 29);
        Check.is("41 signs", Check.rule(x, "1+".repeat(19) + "100"), -41);
        Check.is("WORTH as it was", x.worth(0, 0), 29);
    }

    /** Terms: "at first none: t*3+k". */
    static void termsAtFirstNoRule() {
        TwoAtMost x = Check.town(1, "abcdef0;0;b0", "a;b;c!d;ef");
        Check.is("six TRAITS, three KINDS", x.worth(0, 0), 21);
        Check.is("none", x.worth(1, 0), 0);
        Check.is("one and one", x.worth(2, 0), 4);
    }

    /** Terms: "< > = bind least (two; 1 or 0; not one behind the other)". */
    static void termsComparisonsOfTwo() {
        value("1+1<3", 1);
        value("1+2<3", 0);
        value("3<1+2", 0);
        value("3>1+1", 1);
        value("3>2+1", 0);
        value("2*3=3+3", 1);
        value("2*3=3+4", 0);
        value("-1<0", 1);
        value("(1<2)=1", 1);
        value("1=(2<1)", 0);
        value("5+(2<1)", 5);
        value("5+(1>2)", 5);
        value("5+(1=2)", 5);
        value("5+(1<2)", 6);
        value("5+(2>1)", 6);
        value("5+(2=2)", 6);
        fault("1<2<3", 3);
        fault("1<2>3", 3);
        fault("1=2=3", 3);
        fault("1>2=(3", 3);
        fault("(1<2=3)", 4);
    }

    /** Terms: "then + - (from the left), then * / (from the left ..)". */
    static void termsFromTheLeft() {
        value("9-3-2", 4);
        value("9-3+2", 8);
        value("2+3*4", 14);
        value("2*3+4", 10);
        value("9-2*3", 3);
        value("100/5/2", 10);
        value("100/5*2", 40);
        value("7*3/2", 10);
        value("3/2*7", 7);
    }

    /** Terms: "/ (.. by 0: 0 ..)". */
    static void termsByZero() {
        value("7/0", 0);
        value("5+7/0", 5);
        value("0/0+1", 1);
        value("7/(3-3)+2", 2);
        value("7/-0+3", 3);
        value("7/0*9+4", 4);
    }

    /** Terms: "/ (.. cut to 0)". */
    static void termsCutToZero() {
        value("7/2", 3);
        value("9+-7/2", 6);
        value("9+7/-2", 6);
        value("9+-7/-2", 12);
        value("9+(0-1)/2", 9);
        value("9+1/999", 9);
    }

    /** Terms: "then - ahead of a thing (any many)". */
    static void termsMinusAheadAnyMany() {
        value("9+-4", 5);
        value("9---4", 5);
        value("9--4", 13);
        value("9*--4", 36);
        value("--(4)", 4);
        value("-2*-3", 6);
        value("9-(-2*3)", 15);
        value("-".repeat(38) + "5", 5);
        value("9" + "-".repeat(38) + "5", 14);
        value("9" + "-".repeat(37) + "5", 4);
        fault("-", 1);
        fault("+4", 0);
        fault("4*+4", 2);
    }

    /** Terms: "a NUMBER of 1 to 3 digits". */
    static void termsNumberOfOneToThreeDigits() {
        value("7", 7);
        value("77", 77);
        value("777", 777);
        value("007", 7);
        value("000", 0);
        value("0+999", 999);
        fault("7777", 3);
        fault("0000", 3);
        fault("1+1000", 5);
        // The sign behind 9.
        fault(":", 0);
        fault("1:", 1);
        fault("11:", 2);
    }

    /** Terms: "an EXPRESSION in ( ) (at most 4 in one another)". */
    static void termsFourBracketsInOneAnother() {
        value("(5)", 5);
        value("((((5))))", 5);
        value("((((5))))+((((6))))", 11);
        value("(1+(2+(3+(4))))", 10);
        value("(((1)+(2))+((3)+(4)))*2", 20);
        fault("(((((5)))))", 4);
        fault("((((1)+(2))+(((3)))))", 14);
        fault("1+(((((", 6);
        fault("((((-(", 5);
        fault("()", 1);
        fault("(5", 2);
        fault("5)", 1);
        fault("((5)", 4);
    }

    /** Terms: "t how many TRAITS it has, k how many KINDS it is of, h the HOUSE, n how many THINGS the HOUSE keeps, i .., o ..". */
    static void termsLettersOfTheRule() {
        TwoAtMost x = Check.town(5, "abcdef0;0;-;b0;b4;ab0;-;-;-;-;-;ac4", "a;b;c;d;e;f");
        x.lend(0, 4);
        letter(x, "t", 0, 0, 6);
        letter(x, "t", 1, 0, 0);
        letter(x, "k", 0, 0, 6);
        letter(x, "k", 2, 0, 0);
        letter(x, "h", 0, 0, 0);
        letter(x, "h", 0, 4, 4);
        letter(x, "n", 0, 0, 3);
        letter(x, "n", 0, 4, 3);
        letter(x, "n", 0, 2, 0);
        letter(x, "i", 0, 3, 0);
        letter(x, "i", 11, 3, 11);
        letter(x, "o", 0, 0, 1);
        letter(x, "o", 0, 4, 0);
        letter(x, "o", 2, 0, 0);
        letter(x, "o", 11, 4, 1);
        letter(x, "o+5", 0, 4, 5);
        letter(x, "o+5", 11, 4, 6);
    }

    /** Terms: "As ints": what goes beyond an int comes round. */
    static void termsRuleAsInts() {
        // 2^31 is the least int; the least int made negative, or by -1, is itself.
        value("512*512*512*16", 0);
        value("512*512*512*16-1>0", 1);
        value("512*512*512*16<0", 1);
        value("-(512*512*512*16)<0", 1);
        value("512*512*512*16/-1<0", 1);
        value("512*512*512*32+5", 5);
        value("512*512*512*16-1+512*512*512*16+8", 7);
        value("512*512*512*16-1=0-512*512*512*16-1", 1);
    }

    /** Terms: "put to 0 .. 999: WORTH". */
    static void termsWorthPutWithin() {
        value("0", 0);
        value("0-1", 0);
        value("0-999*999", 0);
        value("998", 998);
        value("999", 999);
        value("999+1", 999);
        value("999*999*999", 999);
    }

    /** Terms: "COINS of a HOUSE 0 .. 9999 (at first 100)". */
    static void termsCoinsPutWithin() {
        TwoAtMost x = new TwoAtMost();
        x.houses(5);
        for (int house = 0; house < 5; house++) {
            Check.is("at first", x.house(house, 2), 100);
        }
        Check.is("9998 ..", x.sheet(2, 3, 9998, 1), 9998 + 9999 + 9999);
        Check.is("9999", x.house(1, 2), 9999);
        Check.is("10000", x.house(2, 2), 9999);
        Check.is("-1 ..", x.sheet(2, 3, -1, 1), 1);
        Check.is("-1", x.house(0, 2), 0);
        Check.is("0", x.house(1, 2), 0);
        Check.is("1", x.house(2, 2), 1);
    }

    /** Terms: "HOUR (at first 0)", and behind AN HOUR "HOUR is 1 more". */
    static void termsHour() {
        TwoAtMost x = new TwoAtMost();
        Check.is("at first", x.count(4), 0);
        x.hours(1);
        Check.is("one more", x.count(4), 1);
        x.hours(60);
        Check.is("sixty more", x.count(4), 61);
    }

    /** Terms: "the inspector comes to the HOUSE whose number is HOUR by how many there are (rest)". */
    static void termsInspectorComesByTheRest() {
        for (int houses = 1; houses <= 5; houses++) {
            for (int hour = 0; hour < 2 * houses + 1; hour++) {
                TwoAtMost x = new TwoAtMost();
                x.houses(houses);
                x.hours(hour);
                Check.kinds(x, "a");
                x.set(1);
                Check.things(x, twoOfEach(houses));
                x.hours(1);
                // Of each HOUSE the THINGS are its number doubled, and the next.
                int taken = 2 * (hour % houses) + 1;
                Check.is("hour " + hour + " of " + houses, x.count(5), 1 << taken);
            }
        }
    }

    /** Terms: by how many HOUSES there are now, not when it began. */
    static void termsInspectorAfterHouses() {
        TwoAtMost x = new TwoAtMost();
        x.houses(5);
        x.hours(7);
        Check.is("hour 7 of 5", x.visit(2), 0);
        x.houses(4);
        Check.is("hour 7 of 4", x.visit(3), 0);
        x.houses(1);
        Check.is("hour 7 of 1", x.visit(0), 0);
    }

    /** Terms: "for each KIND by its number, as long as the HOUSE BREAKS it, the THING of it with the greatest number .. is taken". */
    static void termsTakenByKindsAndGreatestNumbers() {
        TwoAtMost x = Check.town(1, "a0;ab0;a0;ab0;b0;b0", "b;a");
        // b first: 1 3 4 5 leaves 1 3; then a: 0 1 2 3 leaves 0 1.
        Check.is("taken", x.hours(1), 4);
        Check.row("taken", x, 4 + 8 + 16 + 32, 1);
        TwoAtMost y = Check.town(1, "a0;ab0;a0;ab0;b0;b0", "a;b");
        // a first: leaves 0 1; then b: 1 4 5 leaves 1 4.
        Check.is("taken, turned", y.hours(1), 3);
        Check.row("taken, turned", y, 4 + 8 + 32, 1);
    }

    /** Terms: "that is kept there is taken: nobody's then". */
    static void termsTakenIsNobodys() {
        TwoAtMost x = Check.town(2, "a0;a0;a1", "a");
        x.lend(2, 0);
        x.hours(1);
        Check.is("OWNER", x.thing(2, 1), -1);
        Check.is("KEEPER", x.thing(2, 2), -1);
        Check.is("not lent", x.thing(2, 4), 0);
        Check.is("no COINS for it", x.house(0, 2), 100);
        TwoAtMost y = Check.town(2, "a0;a0;a0", "a");
        y.lend(2, 1);
        y.hours(1);
        Check.is("owned, kept elsewhere", y.thing(2, 1), 0);
    }

    /** Terms: "ROW: numbers told last by a call that says so." */
    static void termsRowToldLast() {
        TwoAtMost x = Check.town(2, "a0;a0;a0", "a");
        x.rid(0);
        Check.row("rid", x, 1);
        x.broken();
        Check.row("broken", x, 1, 1);
        x.would(0, 1);
        x.worth(0, 0);
        x.house(0, 0);
        x.heard(0, 1);
        x.forget();
        x.finds(0, 0, 5);
        x.keep(0);
        x.give(0, 1);
        x.undo();
        x.again(0);
        x.sheet(2, 1, 1, 1);
        Check.things(x, "b-");
        Check.kinds(x, "b");
        Check.rule(x, "t");
        x.houses(3);
        Check.row("as broken() told", x, 1, 1);
        x.exchange(0, 1);
        Check.row("no numbers, but told", x);
    }

    /** Terms: "Questions change nothing": each answers the same behind every other, and behind itself. */
    static void termsQuestionsChangeNothing() {
        for (int one = 0; one < QUESTIONS; one++) {
            long alone = asked(questioned(), one);
            for (int other = 0; other < QUESTIONS; other++) {
                TwoAtMost x = questioned();
                asked(x, other);
                Check.is("question " + one + " behind question " + other, asked(x, one), alone);
            }
        }
    }

    /** Terms: five HOUSES, twelve THINGS, six KINDS, all TRAITS: every question has its answer. */
    static void termsAllFull() {
        TwoAtMost x = full();
        Check.is("houses(4)", x.houses(4), -1);
        Check.is("houses(5)", x.houses(5), 5);
        Check.is("worth", x.worth(11, 4), 24);
        answers(x, "broken", x.broken(), 16, 6, 48);
        Check.is("would", x.would(0, 11), 0);
        answers(x, "rid", x.rid(4), 8, 255);
        answers(x, "most", x.most(4), 0, 0, 0);
        answers(x, "alike", x.alike(0, 11), 6, 63, 63);
        answers(x, "trust", x.trust(4), 0, 0, 0);
        answers(x, "visit", x.visit(4), 4, 4080);
        Check.is("store", x.store(63 << 6), -2);
        answers(x, "strike", x.strike(4), 6, 63);
        answers(x, "border", x.border(), 1, 1);
        answers(x, "exchange", x.exchange(4, 0), 0);
        answers(x, "name", x.name(4095), 64, 0);
        answers(x, "deal", x.deal(), 0, -1, -1, -1, -1, -1);
        answers(x, "vote", x.vote(), 0, 0);
        answers(x, "had", x.had(4, 12), 64, 0, 6);
        answers(x, "ask", x.ask(), 0, 4);
        answers(x, "seen", x.seen(11, 5, 10), 0, 1, 1);
        Check.is("finds", x.finds(4, 5, 10), 1000000);
        Check.is("years", x.years(1, 60) >= 0, true);
    }

    /** Terms: the same town, when the inspector has been everywhere: eight THINGS are nobody's. */
    static void termsAllFullAndTaken() {
        TwoAtMost x = full();
        answers(x, "hours", x.hours(5), 8, 4080, 5);
        Check.is("nobody's", x.count(5), 4080);
        answers(x, "broken", x.broken(), 0, 0, 0);
        answers(x, "most of an empty HOUSE", x.most(0), 4, 240, 96);
        answers(x, "most of a full HOUSE", x.most(4), 0, 0, 0);
        answers(x, "deal", x.deal(), 96, 4, 5, 6, 7, -1);
        answers(x, "store", x.store(15), 0, 4, 4, 4, 4);
        Check.is("buy", x.buy(11, 4), -4);
        Check.is("buy for another", x.buy(11, 3), 76);
        Check.is("lend", x.lend(11, 0), 3);
        answers(x, "trust", x.trust(3), 1, 2048, 24);
        x.heard(11, 1);
        answers(x, "whose", x.whose(), 1, 1);
    }

    /** Terms: "Fractions are told in lowest terms, upper and lower number (0 by 1)." */
    static void termsFractions() {
        TwoAtMost x = Check.town(1, "a0;b0", "a!b");
        x.seen(0, 0, 8);
        Check.row("64 by 100", x, 16, 25);
        x.seen(1, 0, 10);
        Check.row("nothing", x, 0, 1);
        x.seen(0, 0, 10);
        Check.row("all", x, 1, 1);
    }

    /** As much as there can be: twelve THINGS with all TRAITS in the last of five HOUSES, six KINDS, MOST 4. */
    private static TwoAtMost full() {
        TwoAtMost x = Check.town(5, "abcdef4;abcdef4;abcdef4;abcdef4;abcdef4;abcdef4", "a;b;c;d;e;f");
        Check.is("six more", Check.things(x, "abcdef4;abcdef4;abcdef4;abcdef4;abcdef4;abcdef4"), 6);
        x.set(4);
        return x;
    }

    private static void answers(TwoAtMost x, String call, long got, long want, long... row) {
        Check.is(call, got, want);
        Check.row(call, x, row);
    }

    /** A town where most questions have several answers that are as good. */
    private static TwoAtMost questioned() {
        TwoAtMost x = Check.town(3, "ab0;a0;a0;abc1;c1;bc2;ab-;c-;c-;c-;-", "a;b;c!a;ab");
        x.heard(0, 0);
        return x;
    }

    /** One of the questions: its answer and its ROW as one number. */
    private static long asked(TwoAtMost x, int question) {
        long answer = answer(x, question);
        for (int i = 0; i < x.count(10); i++) {
            answer = 31 * answer + x.row(i);
        }
        return answer;
    }

    private static long answer(TwoAtMost x, int question) {
        switch (question) {
            case 0: return x.broken();
            case 1: return x.rid(0);
            case 2: return x.most(0);
            case 3: return x.most(2);
            case 4: return x.alike(0, 3);
            case 5: return x.trust(0);
            case 6: return x.visit(1);
            case 7: return x.store(7);
            case 8: return x.store(0b101110);
            case 9: return x.strike(0);
            case 10: return x.border();
            case 11: return x.exchange(0, 1);
            case 12: return x.name(3);
            case 13: return x.deal();
            case 14: return x.vote();
            case 15: return x.pays(3, 5, 20);
            case 16: return x.coins(9);
            case 17: return x.had(0, 3);
            case 18: return x.whose();
            case 19: return x.ask();
            case 20: return x.seen(0, 2, 3);
            case 21: return x.rests(1, 0);
            default: return x.years(3, 9);
        }
    }

    private static String twoOfEach(int houses) {
        StringBuilder text = new StringBuilder();
        for (int house = 0; house < houses; house++) {
            text.append(house > 0 ? ";" : "").append("a").append(house).append(";a").append(house);
        }
        return text.toString();
    }

    private static void value(String rule, int want) {
        TwoAtMost x = Check.town(1, "a0", "");
        Check.is("rule " + rule, Check.rule(x, rule), 0);
        Check.is("worth by " + rule, x.worth(0, 0), want);
    }

    private static void fault(String rule, int at) {
        TwoAtMost x = Check.town(1, "a0", "");
        Check.is("rule " + rule, Check.rule(x, rule), -1 - at);
        Check.is("worth stays behind " + rule, x.worth(0, 0), 3);
    }

    private static void letter(TwoAtMost x, String letter, int thing, int house, int want) {
        Check.is("rule " + letter, Check.rule(x, letter), 0);
        Check.is(letter + " of " + thing + ", " + house, x.worth(thing, house), want);
    }
}
