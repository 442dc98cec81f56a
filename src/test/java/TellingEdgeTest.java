/** Promises 1 to 13: each sentence that names a bound or a refusal has a test of its own, and its words stand above it. */
public final class TellingEdgeTest {
    private static final int LEAST = Integer.MIN_VALUE;
    private static final int GREATEST = Integer.MAX_VALUE;
    // 72 signs: nine LINES of THINGS, each with the ; behind it.
    private static final String NINE = "abcdef0;".repeat(9);

    public static void main(String[] args) {
        Check.runAll(TellingEdgeTest.class);
    }

    /** Promise 1: "Two HOUSES; no THINGS, no KINDS." */
    static void promise01NewObject() {
        TwoAtMost x = new TwoAtMost();
        int[] want = {2, 0, 0, 2, 0, 0, 0, 0, 0, 0, 0, 0};
        for (int what = 0; what < want.length; what++) {
            Check.is("count(" + what + ")", x.count(what), want[what]);
        }
        Check.is("COINS", x.house(0, 2) + x.house(1, 2), 200);
        Check.lacks("house(2, 0)", () -> x.house(2, 0));
        Check.lacks("thing(0, 0)", () -> x.thing(0, 0));
        Check.lacks("kind(0, 0)", () -> x.kind(0, 0));
        Check.lacks("row(0)", () -> x.row(0));
        Check.is("again(0)", x.again(0), false);
        Check.is("again(1)", x.again(1), false);
        Check.is("undo()", x.undo(), -1);
    }

    /** Promise 1: objects know nothing of one another. */
    static void promise01ObjectsApart() {
        TwoAtMost x = Check.town(5, "a0", "a");
        TwoAtMost y = new TwoAtMost();
        x.set(4);
        x.heard(0, 1);
        Check.is("HOUSES", y.count(0), 2);
        Check.is("THINGS", y.count(1), 0);
        Check.is("MOST", y.count(3), 2);
        Check.is("heard", y.count(8), 0);
    }

    /** Promise 2: "Four signs come behind THE TEXT, of v the highest byte first: how many it has." */
    static void promise02HighestByteFirst() {
        TwoAtMost x = new TwoAtMost();
        Check.is("four", x.sign('a' << 24 | 'c' << 16 | '1' << 8 | ';'), 4);
        Check.is("eight", x.sign('b' << 24 | '0' << 16 | ';' << 8 | '-'), 8);
        Check.is("LINES", x.things(), 3);
        Check.is("the first", x.thing(0, 0), 5);
        Check.is("the second", x.thing(1, 0), 2);
        Check.is("the third", x.thing(2, 1), -1);
    }

    /** Promise 2: bytes above 127 are signs, too (no THING, KIND or RULE has them). */
    static void promise02BytesAbove127() {
        TwoAtMost x = new TwoAtMost();
        Check.is("the greatest bytes", x.sign(-1), 4);
        Check.is("the least int", x.sign(LEAST), 8);
        Check.is("unreadable", x.things(), -1);
        // 0xe1 is a with the highest bit: its lower bits alone would be an a.
        x.sign(0xe1 << 24 | '0' << 16);
        x.end(2);
        Check.is("no letter", x.things(), -1);
        x.sign('a' << 24 | 0xb0 << 16);
        x.end(2);
        Check.is("no digit", x.things(), -2);
    }

    /** Promise 2: "Refused: there would be more than 80." */
    static void promise02MoreThan80() {
        TwoAtMost x = new TwoAtMost();
        for (int i = 1; i <= 20; i++) {
            Check.is("up to 80", x.sign('z' << 24), 4 * i);
        }
        Check.is("84", x.sign('z' << 24), -1);
        Check.is("80 stay", x.count(11), 80);
        for (int signs = 79; signs >= 77; signs--) {
            x.end(signs);
            Check.is(signs + " and four", x.sign('z' << 24), -1);
            Check.is(signs + " stay", x.count(11), signs);
        }
        x.end(76);
        Check.is("76 and four", x.sign('z' << 24), 80);
    }

    /** Promise 2: a refused one "changes nothing": THE TEXT reads as before. */
    static void promise02RefusedLeavesText() {
        TwoAtMost x = new TwoAtMost();
        Check.put(x, "a0;b1" + "z".repeat(74));
        x.end(79);
        Check.is("refused", x.sign('c' << 24 | '0' << 16), -1);
        x.end(5);
        Check.is("LINES", x.things(), 2);
        Check.is("the first", x.thing(0, 0), 1);
        Check.is("the second", x.thing(1, 1), 1);
    }

    /** Promise 3: "THE TEXT has its first n signs alone: true". */
    static void promise03FirstSignsAlone() {
        TwoAtMost x = new TwoAtMost();
        Check.put(x, "a0;b1zzz");
        Check.is("as many", x.end(8), true);
        Check.is("eight", x.count(11), 8);
        Check.is("one less", x.end(7), true);
        Check.is("seven", x.count(11), 7);
        Check.is("five", x.end(5), true);
        Check.is("cut again", x.end(2), true);
        Check.is("two", x.count(11), 2);
        Check.is("the first ones", x.things(), 1);
        Check.is("a", x.thing(0, 0), 1);
    }

    /** Promise 3: an end at 0: THE TEXT is empty then. */
    static void promise03EndAtNothing() {
        TwoAtMost x = new TwoAtMost();
        Check.is("of an empty one", x.end(0), true);
        Check.put(x, "zzzz");
        Check.is("of four", x.end(0), true);
        Check.is("none", x.count(11), 0);
        Check.is("nothing is told", x.things(), 0);
    }

    /** Promise 3: "false if it has not so many". */
    static void promise03NotSoMany() {
        TwoAtMost x = new TwoAtMost();
        Check.is("1 of none", x.end(1), false);
        Check.put(x, "a0;b");
        Check.is("5 of 4", x.end(5), false);
        Check.is("80 of 4", x.end(80), false);
        Check.is("the greatest", x.end(GREATEST), false);
        Check.is("four stay", x.count(11), 4);
        x.end(2);
        Check.is("those that were cut", x.end(4), false);
        Check.is("two stay", x.count(11), 2);
        Twins.changesNothing("4 of 3", 0, t -> t.end(4) ? 1 : 0);
    }

    /** Promise 3: "or n is below 0". */
    static void promise03BelowZero() {
        TwoAtMost x = new TwoAtMost();
        Check.put(x, "a0;b");
        Check.is("-1", x.end(-1), false);
        Check.is("the least", x.end(LEAST), false);
        Check.is("four stay", x.count(11), 4);
        Twins.changesNothing("-1", 0, t -> t.end(-1) ? 1 : 0);
    }

    /** Promise 4: "There are n HOUSES (1 .. 5): how many there were". */
    static void promise04OneToFive() {
        TwoAtMost x = new TwoAtMost();
        int before = 2;
        for (int n : new int[] {1, 2, 3, 4, 5, 4, 3, 2, 1, 5, 1}) {
            Check.is("houses(" + n + ")", x.houses(n), before);
            Check.is("count(0) of " + n, x.count(0), n);
            before = n;
        }
    }

    /** Promise 4: "new ones have 100 COINS", those that were there what they had. */
    static void promise04NewOnesHave100() {
        TwoAtMost x = new TwoAtMost();
        x.sheet(2, 2, 7, 1);
        x.houses(4);
        Check.is("there", x.house(0, 2), 7);
        Check.is("there, too", x.house(1, 2), 8);
        Check.is("new", x.house(2, 2), 100);
        Check.is("new, too", x.house(3, 2), 100);
        x.sheet(2, 4, 7, 1);
        x.houses(3);
        x.houses(5);
        Check.is("stayed", x.house(2, 2), 9);
        Check.is("gone and new", x.house(3, 2), 100);
        Check.is("the fifth", x.house(4, 2), 100);
        x.sheet(3, 0, 0, 0);
        x.houses(5);
        Check.is("as many: none is new", x.house(4, 2), 0);
    }

    /** Promise 4: "Refused: another n". */
    static void promise04AnotherN() {
        TwoAtMost x = new TwoAtMost();
        Check.none("other n", x.houses(0), x.houses(6), x.houses(-1), x.houses(LEAST), x.houses(GREATEST));
        Check.is("still two", x.count(0), 2);
        Twins.changesNothing("houses(0)", -1, t -> t.houses(0));
        Twins.changesNothing("houses(6)", -1, t -> t.houses(6));
    }

    /** Promise 4: "Refused: .. a HOUSE that would be gone owns .. something". */
    static void promise04OwnerWouldBeGone() {
        TwoAtMost x = Check.town(4, "a3", "");
        x.lend(0, 0);
        Check.is("it owns it alone", x.houses(3), -1);
        Check.is("two less", x.houses(1), -1);
        Check.is("still four", x.count(0), 4);
        Check.is("it stays", x.houses(4), 4);
        Twins.changesNothing("houses(2)", -1, t -> t.houses(2));
    }

    /** Promise 4: "Refused: .. a HOUSE that would be gone .. keeps something". */
    static void promise04KeeperWouldBeGone() {
        TwoAtMost x = Check.town(4, "a0", "");
        x.lend(0, 3);
        Check.is("it keeps it alone", x.houses(3), -1);
        Check.is("still four", x.count(0), 4);
        x.lend(0, 2);
        Check.is("the next keeps it", x.houses(3), 4);
        Check.is("that, too", x.houses(2), -1);
        x.lend(0, 0);
        Check.is("called back", x.houses(1), 3);
    }

    /** Promise 4: nobody's THINGS keep no HOUSE. */
    static void promise04NobodysThings() {
        TwoAtMost x = Check.town(5, "a-;b-", "");
        Check.is("one is left", x.houses(1), 5);
    }

    /** Promise 5: "THE TEXT tells of THINGS (an empty one: nothing)". */
    static void promise05Empty() {
        TwoAtMost x = new TwoAtMost();
        Check.is("none yet", x.things(), 0);
        Check.is("still none", x.count(1), 0);
        Check.things(x, "-;-;-;-;-;-;-;-;-;-;-;-");
        Check.is("when all twelve are there", x.things(), 0);
        Twins.emptiesTextAlone("empty", "", 0, t -> t.things());
    }

    /** Promise 5: "how many LINES". */
    static void promise05Lines() {
        TwoAtMost x = new TwoAtMost();
        Check.is("one", Check.things(x, "-"), 1);
        Check.is("two more", Check.things(x, "-;a0"), 2);
        Check.is("nine more", Check.things(x, "0;0;0;0;0;0;0;0;0"), 9);
        Check.is("all", x.count(1), 12);
        Check.is("THE TEXT is empty", x.count(11), 0);
    }

    /** Promise 5: "-1 - p: the sign at p can't stand there". */
    static void promise05SignThatCannotStand() {
        things("x", 0);
        things("A0", 0);
        things(";", 0);
        things(" a0", 0);
        things("\0", 0);
        things("!", 0);
        things("a;", 1);
        things("a!", 1);
        things("a/", 1);
        things("a:", 1);
        things("a0-", 2);
        things("a00", 2);
        things("a0a", 2);
        things("--", 1);
        things("-0", 1);
        things("-a", 1);
        things("a0,b0", 2);
        things("a0;x", 3);
        things("a0;;b0", 3);
        things("a0;b1;c1 ", 8);
    }

    /** Promise 5: "its end, if it ends too early". */
    static void promise05EndsTooEarly() {
        things("a", 1);
        things("abcdef", 6);
        things("a0;", 3);
        things("-;", 2);
        things("a0;b1;c", 7);
        things(NINE + "abc", 75);
    }

    /** Promise 5: "76, if it has more and the first 76 could go on or end". */
    static void promise05MoreThan76() {
        things(NINE + "abcd", 76);
        things(NINE + "abcd0", 76);
        things(NINE + "abc0;", 76);
        things(NINE + "abc0x", 76);
        things(NINE + "abc0;a0;", 76);
        things(NINE + "ab0;;", 76);
        things(NINE + "ab0;xxxx", 76);
        things(NINE + "abcdxxxx", 76);
    }

    /** Promise 5: of more than 76, one among the first 76 that can't stand there comes first. */
    static void promise05MoreThan76ButFaultAhead() {
        things(NINE + "abca0", 75);
        things(NINE + "abc00", 76);
        things(NINE + "ab00;", 75);
        things(NINE + "a0x;a", 74);
        things("x" + NINE + "abcd", 0);
        things("-;-;-;-;-;-;-;-;-;-;-;-;" + "abcdef0;".repeat(7), 24);
    }

    /** Promise 5: just 76 signs can be read. */
    static void promise05Just76() {
        TwoAtMost x = new TwoAtMost();
        Check.is("76", Check.things(x, NINE + "def1"), 10);
        Check.is("the last TRAITS", x.thing(9, 0), 56);
        Check.is("the last OWNER", x.thing(9, 1), 1);
    }

    /** Promise 5: "a letter that is no more than the one ahead .. at it". */
    static void promise05LetterNoMoreThanTheOneAhead() {
        things("aa0", 1);
        things("ba0", 1);
        things("abcdeff0", 6);
        things("abfe0", 3);
        things("a0;cc", 4);
        TwoAtMost x = new TwoAtMost();
        Check.is("a LINE begins anew", Check.things(x, "f0;a0"), 2);
    }

    /** Promise 5: "a digit of no HOUSE: at it". */
    static void promise05DigitOfNoHouse() {
        things("a2", 1);
        things("2", 0);
        things("9", 0);
        things("a0;abcdef9", 9);
        TwoAtMost x = new TwoAtMost();
        x.houses(1);
        Check.is("one HOUSE: 1", Check.things(x, "a1"), -2);
        Check.is("one HOUSE: 0", Check.things(x, "a0"), 1);
        x.houses(5);
        Check.is("five HOUSES: 5", Check.things(x, "a5"), -2);
        Check.is("five HOUSES: 4", Check.things(x, "a4"), 1);
    }

    /** Promise 5: "the first sign of a LINE for which there is no room". */
    static void promise05NoRoom() {
        things("-;-;-;-;-;-;-;-;-;-;-;-;-", 24);
        things("-;-;-;-;-;-;-;-;-;-;-;-;x", 24);
        things("-;-;-;-;-;-;-;-;-;-;-;-;", 24);
        things("-;-;-;-;-;-;-;-;-;-;-;-;aa", 24);
        TwoAtMost x = Check.town(2, "-;-;-;-;-;-;-;-;-;-", "");
        Check.is("ten and three", Check.things(x, "a0;b1;c0"), -7);
        Check.is("still ten", x.count(1), 10);
        Check.is("ten and two", Check.things(x, "a0;b1"), 2);
        Check.is("twelve and one", Check.things(x, "a0"), -1);
        Check.is("twelve and a wrong one", Check.things(x, "zz"), -1);
        Check.is("still twelve", x.count(1), 12);
    }

    /** Promise 5: "Nothing of it comes, if a LINE can't." */
    static void promise05NothingOfItComes() {
        Twins.emptiesTextAlone("the last can't", "a0;b1;c9", -8, t -> t.things());
        Twins.emptiesTextAlone("the first can't", "z;b1", -1, t -> t.things());
        Twins.emptiesTextAlone("no room", "0;0;0;0;0;0;0", -13, t -> t.things());
        Twins.emptiesTextAlone("it ends too early", "0;", -3, t -> t.things());
    }

    /** Promise 6: "THE TEXT tells of KINDS (an empty one: nothing): how many LINES." */
    static void promise06Empty() {
        TwoAtMost x = new TwoAtMost();
        Check.is("none yet", x.kinds(), 0);
        Check.is("lines", Check.kinds(x, "a;b;c;d;e"), 5);
        Check.is("one more", Check.kinds(x, "f"), 1);
        Check.is("when all six are there", x.kinds(), 0);
        Twins.emptiesTextAlone("empty", "", 0, t -> t.kinds());
    }

    /** Promise 6: "-1 - p: likewise": the sign at p can't stand there. */
    static void promise06SignThatCannotStand() {
        kinds("x", 0);
        kinds("0", 0);
        kinds("-", 0);
        kinds(";", 0);
        kinds("g", 0);
        kinds("!b", 0);
        kinds("a-", 1);
        kinds("a0", 1);
        kinds("ag", 1);
        kinds("a!!b", 2);
        kinds("a!b!c", 3);
        kinds("a!b0", 3);
        kinds("a!g", 2);
        kinds("a!;b", 2);
        kinds("a;;b", 2);
        kinds("a;b ", 3);
    }

    /** Promise 6: likewise "its end, if it ends too early". */
    static void promise06EndsTooEarly() {
        kinds("a;", 2);
        kinds("a!", 2);
        kinds("a!b;", 4);
        kinds("abcdef!", 7);
        kinds("a;b;c;d;e;", 10);
    }

    /** Promise 6: likewise, a letter that is no more than the one ahead. */
    static void promise06LetterNoMoreThanTheOneAhead() {
        kinds("aa", 1);
        kinds("ba", 1);
        kinds("abcdefa", 6);
        kinds("f!aa", 3);
        kinds("f!ba", 3);
        kinds("a;cb", 3);
        TwoAtMost x = new TwoAtMost();
        Check.is("behind ! it begins anew", Check.kinds(x, "f!abcde;a"), 2);
    }

    /** Promise 6: "a letter behind ! that the KIND must have: at it". */
    static void promise06LetterBehindThatItMustHave() {
        kinds("a!a", 2);
        kinds("b!ab", 3);
        kinds("bd!acd", 5);
        kinds("abcdef!a", 7);
        kinds("a;b!b", 4);
        TwoAtMost x = new TwoAtMost();
        Check.is("another KIND's may come", Check.kinds(x, "a;b!a"), 2);
    }

    /** Promise 6: likewise, the first sign of a LINE for which there is no room. */
    static void promise06NoRoom() {
        kinds("a;b;c;d;e;f;a", 12);
        kinds("a;b;c;d;e;f;", 12);
        kinds("a;b;c;d;e;f;x", 12);
        TwoAtMost x = Check.town(2, "", "a;b;c;d");
        Check.is("four and three", Check.kinds(x, "a!b;b!c;c!d"), -9);
        Check.is("still four", x.count(2), 4);
        Check.is("four and two", Check.kinds(x, "a!b;b!c"), 2);
        Check.is("six and one", Check.kinds(x, "a"), -1);
        Check.is("still six", x.count(2), 6);
    }

    /** Promise 6: "60 signs": six KINDS have 47 at most, so of more than 60 an earlier sign can't stand there. */
    static void promise06MoreThan60() {
        kinds("abc!def;".repeat(8), 48);
        kinds("a".repeat(64), 1);
        kinds("a;b;c;d;e;f!" + "a".repeat(50), 13);
        TwoAtMost x = new TwoAtMost();
        Check.is("the longest", Check.kinds(x, "abc!def;".repeat(5) + "abc!def"), 6);
    }

    /** Promise 6: likewise, nothing of it comes, if a LINE can't. */
    static void promise06NothingOfItComes() {
        Twins.emptiesTextAlone("the last can't", "a;b;c!c", -7, t -> t.kinds());
        Twins.emptiesTextAlone("the first can't", "z;b", -1, t -> t.kinds());
        Twins.emptiesTextAlone("no room", "a;a;a;a", -7, t -> t.kinds());
    }

    /** Promise 7: "THE TEXT is THE RULE (an empty one: none): 0." */
    static void promise07Empty() {
        TwoAtMost x = Check.town(2, "abc0", "a");
        Check.is("a RULE", Check.rule(x, "17"), 0);
        Check.is("by it", x.worth(0, 0), 17);
        Check.is("empty", x.rule(), 0);
        Check.is("none: t*3+k", x.worth(0, 0), 10);
        Check.is("a RULE of 0", Check.rule(x, "0"), 0);
        Check.is("is a RULE", x.worth(0, 0), 0);
        Check.is("THE TEXT is empty", x.count(11), 0);
    }

    /** Promise 7: "-1 - p: likewise": the sign at p can't stand there; THE RULE stays. */
    static void promise07SignThatCannotStand() {
        rule("x", 0);
        rule("*t", 0);
        rule(")", 0);
        rule(" t", 0);
        rule("a", 0);
        rule("t t", 1);
        rule("tt", 1);
        rule("3t", 1);
        rule("t3", 1);
        rule("t(3)", 1);
        rule("(t)3", 3);
        rule("t+)", 2);
        rule("t**k", 2);
        rule("t=>k", 2);
        rule("t=k=h", 3);
        rule("1234", 3);
        rule("(((((", 4);
        Twins.emptiesTextAlone("THE RULE stays", "t+k+x", -5, t -> t.rule());
        Twins.emptiesTextAlone("THE RULE stays at once", "x", -1, t -> t.rule());
    }

    /** Promise 7: likewise "its end, if it ends too early". */
    static void promise07EndsTooEarly() {
        rule("t+", 2);
        rule("t<", 2);
        rule("-", 1);
        rule("(", 1);
        rule("(t", 2);
        rule("((t)", 4);
        rule("-".repeat(39), 39);
        rule("-".repeat(40), 40);
        rule("1+".repeat(20), 40);
    }

    /** Promise 7: "40 signs": 40, if it has more and the first 40 could go on or end. */
    static void promise07MoreThan40() {
        String forty = "1+".repeat(19) + "10";
        rule(forty + "0", 40);
        rule(forty + "+1", 40);
        rule(forty + "x", 40);
        rule("1+".repeat(20) + "1", 40);
        rule("1+".repeat(20) + "x", 40);
        rule("-".repeat(80), 40);
        rule("-".repeat(39) + "x" + "1", 39);
        rule("x" + forty, 0);
        TwoAtMost x = Check.town(1, "a0", "");
        Check.is("just 40", Check.rule(x, forty), 0);
        Check.is("its WORTH", x.worth(0, 0), 29);
    }

    /** Promise 8: "OWNER (NONE), 2: KEEPER (NONE)", "4: 1 if it is lent (OWNER and KEEPER are unlike)". */
    static void promise08Answers() {
        TwoAtMost x = Check.town(2, "af0;b-;1", "a;f!a;b");
        x.lend(0, 1);
        int[][] want = {{33, 0, 1, 1, 1}, {2, -1, -1, 4, 0}, {0, 1, 1, 0, 0}};
        for (int thing = 0; thing < 3; thing++) {
            for (int what = 0; what < 5; what++) {
                Check.is("thing(" + thing + ", " + what + ")", x.thing(thing, what), want[thing][what]);
            }
        }
    }

    /** Promise 8: "NoSuchElementException: none such". */
    static void promise08NoneSuch() {
        TwoAtMost x = Check.town(2, "a0;b1", "");
        Check.is("the last", x.thing(1, 0), 2);
        Check.lacks("behind it", () -> x.thing(2, 0));
        Check.lacks("-1", () -> x.thing(-1, 0));
        Check.lacks("12", () -> x.thing(12, 0));
        Check.lacks("the least", () -> x.thing(LEAST, 0));
        Check.lacks("the greatest", () -> x.thing(GREATEST, 0));
        Twins.changesNothing("thing(6, 0)", Twins.THROWN, t -> Twins.thrown(() -> t.thing(6, 0)));
    }

    /** Promise 8: "NoSuchElementException: .. another what". */
    static void promise08AnotherWhat() {
        TwoAtMost x = Check.town(2, "a0", "");
        Check.is("the last", x.thing(0, 4), 0);
        Check.lacks("5", () -> x.thing(0, 5));
        Check.lacks("-1", () -> x.thing(0, -1));
        Check.lacks("the least", () -> x.thing(0, LEAST));
        Check.lacks("the greatest", () -> x.thing(0, GREATEST));
    }

    /** Promise 9: "NoSuchElementException: likewise": none such. */
    static void promise09NoneSuch() {
        TwoAtMost x = Check.town(2, "a0", "a;b!a");
        Check.is("the last", x.kind(1, 0), 2);
        Check.lacks("behind it", () -> x.kind(2, 0));
        Check.lacks("-1", () -> x.kind(-1, 0));
        Check.lacks("6", () -> x.kind(6, 0));
        Check.lacks("the least", () -> x.kind(LEAST, 0));
        Check.lacks("the greatest", () -> x.kind(GREATEST, 0));
        Twins.changesNothing("kind(3, 0)", Twins.THROWN, t -> Twins.thrown(() -> t.kind(3, 0)));
    }

    /** Promise 9: "likewise": another what. */
    static void promise09AnotherWhat() {
        TwoAtMost x = Check.town(2, "a0;b-", "a");
        Check.is("the last", x.kind(0, 2), 1);
        Check.lacks("3", () -> x.kind(0, 3));
        Check.lacks("-1", () -> x.kind(0, -1));
        Check.lacks("the least", () -> x.kind(0, LEAST));
        Check.lacks("the greatest", () -> x.kind(0, GREATEST));
    }

    /** Promise 9: "2: THINGS that are of it (bits)": all twelve may be, none, nobody's too. */
    static void promise09ThingsOfIt() {
        TwoAtMost x = Check.town(1, "ab0;ab-;ab0;ab-;ab0;ab-;ab0;ab-;ab0;ab-;ab0;ab-", "a;a!b;c");
        Check.is("all", x.kind(0, 2), 4095);
        Check.is("none", x.kind(1, 2), 0);
        Check.is("none at all", x.kind(2, 2), 0);
        x.paint(11, 1);
        Check.is("the last one", x.kind(1, 2), 2048);
    }

    /** Promise 10: "NoSuchElementException: likewise": none such. */
    static void promise10NoneSuch() {
        TwoAtMost x = new TwoAtMost();
        Check.is("the last", x.house(1, 2), 100);
        Check.lacks("behind it", () -> x.house(2, 2));
        Check.lacks("-1", () -> x.house(-1, 2));
        Check.lacks("5", () -> x.house(5, 2));
        Check.lacks("the least", () -> x.house(LEAST, 2));
        Check.lacks("the greatest", () -> x.house(GREATEST, 2));
        x.houses(5);
        Check.is("the fifth", x.house(4, 2), 100);
        x.houses(1);
        Check.lacks("gone", () -> x.house(1, 2));
        Twins.changesNothing("house(3, 0)", Twins.THROWN, t -> Twins.thrown(() -> t.house(3, 0)));
    }

    /** Promise 10: "likewise": another what. */
    static void promise10AnotherWhat() {
        TwoAtMost x = new TwoAtMost();
        Check.is("the last", x.house(0, 3), 0);
        Check.lacks("4", () -> x.house(0, 4));
        Check.lacks("-1", () -> x.house(0, -1));
        Check.lacks("the least", () -> x.house(0, LEAST));
        Check.lacks("the greatest", () -> x.house(0, GREATEST));
    }

    /** Promise 11: "NONE: none such." */
    static void promise11NoneSuch() {
        TwoAtMost x = Check.town(3, "a0;b-", "a");
        Check.is("the last of both", x.worth(1, 2), 3);
        Check.none("THINGS", x.worth(2, 0), x.worth(-1, 0), x.worth(LEAST, 0), x.worth(GREATEST, 0));
        Check.none("HOUSES", x.worth(0, 3), x.worth(0, -1), x.worth(0, LEAST), x.worth(0, GREATEST));
        Check.none("no THINGS", new TwoAtMost().worth(0, 0));
        Twins.changesNothing("worth(6, 0)", -1, t -> t.worth(6, 0));
    }

    /** Promise 12: "MOST becomes v (1 .. 4): what it was. Refused: others." */
    static void promise12Others() {
        TwoAtMost x = new TwoAtMost();
        Check.none("others", x.set(0), x.set(5), x.set(-1), x.set(LEAST), x.set(GREATEST));
        Check.is("still two", x.count(3), 2);
        int before = 2;
        for (int v : new int[] {1, 2, 3, 4, 4, 1}) {
            Check.is("set(" + v + ")", x.set(v), before);
            Check.is("count(3)", x.count(3), v);
            before = v;
        }
        Twins.changesNothing("set(0)", -1, t -> t.set(0));
        Twins.changesNothing("set(5)", -1, t -> t.set(5));
    }

    /** Promise 13: "bytes (kind 0) .. the lowest bits, with their sign". */
    static void promise13Bytes() {
        TwoAtMost x = new TwoAtMost();
        x.houses(5);
        Check.is("126 ..", x.sheet(0, 5, 126, 1), 126 + 127);
        coins(x, 126, 127, 0, 0, 0);
        Check.is("254 ..", x.sheet(0, 5, 254, 1), 1 + 2);
        coins(x, 0, 0, 0, 1, 2);
        // -257, -128, 1, 130, 259 are -1, -128, 1, -126, 3 as bytes.
        Check.is("-257 ..", x.sheet(0, 5, -257, 129), 1 + 3);
        coins(x, 0, 0, 1, 0, 3);
    }

    /** Promise 13: "shorts (1) .. the lowest bits, with their sign". */
    static void promise13Shorts() {
        TwoAtMost x = new TwoAtMost();
        x.houses(5);
        Check.is("32766 ..", x.sheet(1, 3, 32766, 1), 9999 + 9999);
        coins(x, 9999, 9999, 0, 0, 0);
        Check.is("65535 ..", x.sheet(1, 4, 65535, 1), 1 + 2);
        coins(x, 0, 0, 1, 2, 0);
        Check.is("200 as a short", x.sheet(1, 1, 200, 0), 200);
    }

    /** Promise 13: "ints (2) of n entries f, f + step, ..": what goes beyond an int comes round. */
    static void promise13Ints() {
        TwoAtMost x = new TwoAtMost();
        x.houses(5);
        Check.is("beyond the greatest", x.sheet(2, 5, GREATEST, 1), 9999);
        coins(x, 9999, 0, 0, 0, 0);
        Check.is("beyond the least", x.sheet(2, 5, LEAST, -1), 9999 * 4);
        coins(x, 0, 9999, 9999, 9999, 9999);
        Check.is("steps that come round", x.sheet(2, 5, 3, 1 << 30), 3 + 9999 + 3);
        coins(x, 3, 9999, 0, 0, 3);
        Check.is("the least step", x.sheet(2, 5, 4, LEAST), 12);
        coins(x, 4, 0, 4, 0, 4);
        Check.is("a step down", x.sheet(2, 5, 2, -1), 3);
        coins(x, 2, 1, 0, 0, 0);
    }

    /** Promise 13: "put to 0 .. 9999". */
    static void promise13PutWithin() {
        TwoAtMost x = new TwoAtMost();
        x.houses(5);
        Check.is("round 9999", x.sheet(2, 4, 9997, 1), 9997 + 9998 + 9999 + 9999);
        coins(x, 9997, 9998, 9999, 9999, 0);
        Check.is("round 0", x.sheet(2, 4, -2, 1), 1);
        coins(x, 0, 0, 0, 1, 0);
    }

    /** Promise 13: "those behind it have 0: the sum of all". */
    static void promise13ThoseBehindHaveNothing() {
        TwoAtMost x = new TwoAtMost();
        x.houses(5);
        Check.is("one", x.sheet(2, 1, 8, 8), 8);
        coins(x, 8, 0, 0, 0, 0);
        Check.is("five", x.sheet(2, 5, 1, 1), 15);
        coins(x, 1, 2, 3, 4, 5);
        Check.is("none", x.sheet(2, 0, 8, 8), 0);
        coins(x, 0, 0, 0, 0, 0);
        TwoAtMost y = new TwoAtMost();
        Check.is("more entries than HOUSES", y.sheet(2, 5, 1, 1), 3);
        y.houses(3);
        Check.is("a new HOUSE has 100", y.house(2, 2), 100);
    }

    /** Promise 13: "-2: n below 0 (of kinds 0 .. 2; nothing changes)". */
    static void promise13BelowZero() {
        for (int kind = 0; kind <= 2; kind++) {
            int which = kind;
            Twins.changesNothing("-1 of kind " + kind, -2, t -> t.sheet(which, -1, 5, 5));
            Twins.changesNothing("the least of kind " + kind, -2, t -> t.sheet(which, LEAST, 5, 5));
        }
    }

    /** Promise 13: "-3: missing (all 0)", whatever else is told (n below 0 of kinds 0 .. 2 alone is -2). */
    static void promise13Missing() {
        for (int n : new int[] {0, 1, 5, -1, LEAST}) {
            TwoAtMost x = new TwoAtMost();
            x.houses(5);
            Check.is("missing, n " + n, x.sheet(3, n, 9, 9), -3);
            coins(x, 0, 0, 0, 0, 0);
        }
    }

    /** Promise 13: "NONE: another kind". */
    static void promise13AnotherKind() {
        Twins.changesNothing("kind 4", -1, t -> t.sheet(4, 2, 5, 5));
        Twins.changesNothing("kind -1", -1, t -> t.sheet(-1, 2, 5, 5));
        Twins.changesNothing("the least kind", -1, t -> t.sheet(LEAST, 2, 5, 5));
        Twins.changesNothing("the greatest kind", -1, t -> t.sheet(GREATEST, 2, 5, 5));
    }

    /** Promise 13: "NONE: .. n above 5". */
    static void promise13AboveFive() {
        for (int kind = 0; kind <= 2; kind++) {
            int which = kind;
            Twins.changesNothing("6 of kind " + kind, -1, t -> t.sheet(which, 6, 5, 5));
            Twins.changesNothing("the greatest of kind " + kind, -1, t -> t.sheet(which, GREATEST, 5, 5));
        }
    }

    /** Promise 13: "(these first)". */
    static void promise13TheseFirst() {
        Twins.changesNothing("another kind, n below 0", -1, t -> t.sheet(4, -1, 5, 5));
        Twins.changesNothing("missing, n above 5", -1, t -> t.sheet(3, 6, 5, 5));
    }

    private static void things(String text, int at) {
        TwoAtMost x = new TwoAtMost();
        Check.is("things of '" + text + "'", Check.things(x, text), -1 - at);
        Check.is("nothing of '" + text + "'", x.count(1), 0);
        Check.is("text behind '" + text + "'", x.count(11), 0);
    }

    private static void kinds(String text, int at) {
        TwoAtMost x = new TwoAtMost();
        Check.is("kinds of '" + text + "'", Check.kinds(x, text), -1 - at);
        Check.is("nothing of '" + text + "'", x.count(2), 0);
        Check.is("text behind '" + text + "'", x.count(11), 0);
    }

    private static void rule(String text, int at) {
        TwoAtMost x = Check.town(1, "a0", "");
        Check.rule(x, "17");
        Check.is("rule of '" + text + "'", Check.rule(x, text), -1 - at);
        Check.is("worth behind '" + text + "'", x.worth(0, 0), 17);
        Check.is("text behind '" + text + "'", x.count(11), 0);
    }

    private static void coins(TwoAtMost x, int... want) {
        for (int house = 0; house < want.length; house++) {
            Check.is("coins of " + house, x.house(house, 2), want[house]);
        }
    }
}
