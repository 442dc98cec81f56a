/** Promises 1 to 13: the constructor, THE TEXT, HOUSES, THINGS, KINDS, THE RULE. */
public final class TellingTest {
    public static void main(String[] args) {
        aNewObject();
        sign();
        end();
        houses();
        things();
        kinds();
        ruleThatCanBeRead();
        ruleThatCannot();
        thing();
        kind();
        house();
        worth();
        set();
        sheet();
        Check.end();
    }

    private static void aNewObject() {
        TwoAtMost x = new TwoAtMost();
        int[] want = {2, 0, 0, 2, 0, 0, 0, 0, 0, 0, 0, 0};
        for (int what = 0; what < want.length; what++) {
            Check.is("new: count(" + what + ")", x.count(what), want[what]);
        }
        Check.is("new: coins of 0", x.house(0, 2), 100);
        Check.is("new: coins of 1", x.house(1, 2), 100);
        Check.lacks("new: house(2, 0)", () -> x.house(2, 0));
        Check.lacks("new: row(0)", () -> x.row(0));
        Check.is("NONE", TwoAtMost.NONE, -1);
    }

    private static void sign() {
        TwoAtMost x = new TwoAtMost();
        Check.is("sign: order of bytes", x.sign('b' << 24 | '1' << 16 | ';' << 8 | 'a'), 4);
        Check.is("sign: behind", x.sign('0' << 24), 8);
        x.end(5);
        Check.is("sign: things", x.things(), 2);
        Check.is("sign: first TRAITS", x.thing(0, 0), 2);
        Check.is("sign: second OWNER", x.thing(1, 1), 0);
        for (int i = 1; i <= 20; i++) {
            Check.is("sign: up to 80", x.sign(-1), 4 * i);
        }
        Check.is("sign: above 80", x.sign(0), -1);
        Check.is("sign: still 80", x.count(11), 80);
        x.end(77);
        Check.is("sign: 77 and 4", x.sign(0), -1);
        Check.is("sign: still 77", x.count(11), 77);
        x.end(76);
        Check.is("sign: 76 and 4", x.sign(0), 80);
    }

    private static void end() {
        TwoAtMost x = new TwoAtMost();
        Check.is("end: 0 of none", x.end(0), true);
        Check.is("end: 1 of none", x.end(1), false);
        x.sign(0x61306231);
        Check.is("end: 5 of 4", x.end(5), false);
        Check.is("end: below 0", x.end(-1), false);
        Check.is("end: least", x.end(Integer.MIN_VALUE), false);
        Check.is("end: nothing changed", x.count(11), 4);
        Check.is("end: 4 of 4", x.end(4), true);
        Check.is("end: 2 of 4", x.end(2), true);
        Check.is("end: two are left", x.count(11), 2);
        Check.is("end: 3 of 2", x.end(3), false);
        Check.is("end: the first ones", x.things(), 1);
        Check.is("end: a", x.thing(0, 0), 1);
    }

    private static void houses() {
        TwoAtMost x = new TwoAtMost();
        Check.is("houses: 0", x.houses(0), -1);
        Check.is("houses: 6", x.houses(6), -1);
        Check.is("houses: below", x.houses(-3), -1);
        Check.is("houses: 5", x.houses(5), 2);
        Check.is("houses: new coins", x.house(4, 2), 100);
        x.sheet(2, 5, 7, 0);
        Check.things(x, "a2;b-");
        Check.is("houses: 2 would be gone", x.houses(2), -1);
        Check.is("houses: still 5", x.count(0), 5);
        Check.is("houses: 3", x.houses(3), 5);
        Check.is("houses: 4", x.houses(4), 3);
        Check.is("houses: came anew", x.house(3, 2), 100);
        Check.is("houses: was there", x.house(2, 2), 7);
        x.lend(0, 3);
        Check.is("houses: keeper would be gone", x.houses(3), -1);
        x.lend(0, 0);
        Check.is("houses: owner would be gone", x.houses(2), -1);
        Check.is("houses: as many", x.houses(4), 4);
        Check.is("houses: forgets", x.undo(), -1);
        TwoAtMost y = new TwoAtMost();
        Check.is("houses: 1", y.houses(1), 2);
        Check.is("houses: one is there", y.count(0), 1);
        Check.is("houses: its things", Check.things(y, "a0;b1"), -5);
    }

    private static void things() {
        TwoAtMost x = new TwoAtMost();
        fault(x, "x", 0);
        fault(x, "a", 1);
        fault(x, "abcdef", 6);
        fault(x, "ba0", 1);
        fault(x, "aa0", 1);
        fault(x, "g0", 0);
        fault(x, "a2", 1);
        fault(x, "a9", 1);
        fault(x, "a0;", 3);
        fault(x, "a0b", 2);
        fault(x, "a01", 2);
        fault(x, "--", 1);
        fault(x, ";", 0);
        fault(x, "a0;;", 3);
        fault(x, "A0", 0);
        fault(x, "a\u00ff", 1);
        Check.is("things: none came", x.count(1), 0);
        Check.is("things: empty", x.things(), 0);
        Check.is("things: lines", Check.things(x, "abcdef1;-;0;ce-"), 4);
        Check.is("things: traits", x.thing(0, 0), 63);
        Check.is("things: owner", x.thing(0, 1), 1);
        Check.is("things: keeper", x.thing(0, 2), 1);
        Check.is("things: nobody's", x.thing(1, 1), -1);
        Check.is("things: no traits", x.thing(2, 0), 0);
        Check.is("things: ce", x.thing(3, 0), 20);
        Check.is("things: text is empty", x.count(11), 0);
        fault(x, "-;-;-;-;-;-;-;-;-", 16);
        fault(x, "-;-;-;-;-;-;-;-;", 16);
        Check.is("things: none of them came", x.count(1), 4);
        Check.is("things: to 12", Check.things(x, "-;-;-;-;-;-;-;-"), 8);
        fault(x, "a0", 0);
        fault(x, "x", 0);
        Check.is("things: empty when full", x.things(), 0);
        longThings();
    }

    private static void longThings() {
        TwoAtMost x = new TwoAtMost();
        String nine = "abcdef0;".repeat(9);
        fault(x, nine + "abcd0", 76);
        fault(x, nine + "abcd;", 76);
        fault(x, nine + "abc0;", 76);
        fault(x, nine + "abc0x", 76);
        fault(x, nine + "abc0;abc", 76);
        fault(x, nine + "abca0", 75);
        Check.is("things: 76 signs", Check.things(x, nine + "abc0"), 10);
    }

    private static void fault(TwoAtMost x, String text, int at) {
        Check.is("things of '" + text + "'", Check.things(x, text), -1 - at);
        Check.is("text behind '" + text + "'", x.count(11), 0);
    }

    private static void kinds() {
        TwoAtMost x = new TwoAtMost();
        Check.is("kinds: empty", x.kinds(), 0);
        kindFault(x, "x", 0);
        kindFault(x, "!", 0);
        kindFault(x, "!a", 0);
        kindFault(x, "a!", 2);
        kindFault(x, "a!;b", 2);
        kindFault(x, "a!a", 2);
        kindFault(x, "bd!ad", 4);
        kindFault(x, "ba", 1);
        kindFault(x, "aa", 1);
        kindFault(x, "b!cb", 3);
        kindFault(x, "b!dc", 3);
        kindFault(x, "a;", 2);
        kindFault(x, "a!b!c", 3);
        kindFault(x, "a0", 1);
        kindFault(x, "g", 0);
        kindFault(x, "a;b;c;d;e;f;a", 12);
        Check.is("kinds: none came", x.count(2), 0);
        Check.is("kinds: lines", Check.kinds(x, "abc!def;f;b!ac"), 3);
        Check.is("kinds: must", x.kind(0, 0), 7);
        Check.is("kinds: must not", x.kind(0, 1), 56);
        Check.is("kinds: no must not", x.kind(1, 1), 0);
        Check.is("kinds: around", x.kind(2, 1), 5);
        kindFault(x, "a;b;c;d", 6);
        Check.is("kinds: to 6", Check.kinds(x, "a;a;a"), 3);
        kindFault(x, "a", 0);
        longKinds();
    }

    private static void longKinds() {
        TwoAtMost x = new TwoAtMost();
        String five = "abc!def;".repeat(5) + "abcdef";
        Check.is("kinds: six of 8 at most never reach 60", Check.kinds(x, five), 6);
        TwoAtMost y = new TwoAtMost();
        kindFault(y, "abc!def;".repeat(7) + "abc!de", 48);
        kindFault(y, "a".repeat(64), 1);
    }

    private static void kindFault(TwoAtMost x, String text, int at) {
        Check.is("kinds of '" + text + "'", Check.kinds(x, text), -1 - at);
        Check.is("text behind '" + text + "'", x.count(11), 0);
    }

    private static void ruleThatCanBeRead() {
        // THING 4 has ace, is of 2 KINDS; HOUSE 1 owns it and keeps 3 THINGS.
        TwoAtMost x = Check.town(3, "-;-;1;b1;ace1;-", "a;ce!b;f");
        value(x, "", 11);
        value(x, "t", 3);
        value(x, "k", 2);
        value(x, "h", 1);
        value(x, "n", 3);
        value(x, "i", 4);
        value(x, "o", 1);
        value(x, "007", 7);
        value(x, "2+3*4", 14);
        value(x, "(2+3)*4", 20);
        value(x, "20-3-4", 13);
        value(x, "100/7/2", 7);
        value(x, "100/7*2", 28);
        value(x, "7/0", 0);
        value(x, "9+7/(t-3)", 9);
        value(x, "5+-7/2", 2);
        value(x, "5-7/2", 2);
        value(x, "--5", 5);
        value(x, "9---5", 4);
        value(x, "9*--5", 45);
        value(x, "9--5", 14);
        value(x, "-5", 0);
        value(x, "999+1", 999);
        value(x, "1<2", 1);
        value(x, "2<1", 0);
        value(x, "2>1", 1);
        value(x, "1>2", 0);
        value(x, "2>2", 0);
        value(x, "2<2", 0);
        value(x, "1=1", 1);
        value(x, "1=2", 0);
        value(x, "1+1=2*1", 1);
        value(x, "(1<2)<2", 1);
        value(x, "3*(1<2)", 3);
        value(x, "((((5))))", 5);
        value(x, "((((5))))+((((6))))", 11);
        value(x, "999*999*999", 997002999);
        value(x, "0-999*999*999*3", 1303958299);
        value(x, "999*999*999*3", 0);
        value(x, "1+1+1+1+1+1+1+1+1+1+1+1+1+1+1+1+1+1+1+10", 29);
    }

    private static void value(TwoAtMost x, String rule, int want) {
        Check.is("rule of '" + rule + "'", Check.rule(x, rule), 0);
        Check.is("worth by '" + rule + "'", x.worth(4, 1), Math.min(999, want));
    }

    private static void ruleThatCannot() {
        TwoAtMost x = Check.town(2, "abc0", "a");
        Check.rule(x, "17");
        ruleFault(x, "z", 0);
        ruleFault(x, "t+", 2);
        ruleFault(x, "-", 1);
        ruleFault(x, "t<k<h", 3);
        ruleFault(x, "t=k>h", 3);
        ruleFault(x, "(t<k=h)", 4);
        ruleFault(x, "(t", 2);
        ruleFault(x, "t)", 1);
        ruleFault(x, "()", 1);
        ruleFault(x, "(((((t", 4);
        ruleFault(x, "((((t))))+(((((t", 14);
        ruleFault(x, "1000", 3);
        ruleFault(x, "tk", 1);
        ruleFault(x, "t k", 1);
        ruleFault(x, "3t", 1);
        ruleFault(x, "+t", 0);
        ruleFault(x, "t*/k", 2);
        ruleFault(x, "t+*k", 2);
        ruleFault(x, "<t", 0);
        ruleFault(x, "t<", 2);
        ruleFault(x, "t\0", 1);
        String forty = "1+".repeat(19) + "10";
        ruleFault(x, forty + "0", 40);
        ruleFault(x, forty + "x", 40);
        ruleFault(x, "1+".repeat(20) + "1", 40);
        ruleFault(x, "-".repeat(40), 40);
        ruleFault(x, "-".repeat(41), 40);
        ruleFault(x, "-".repeat(39) + "x" + "t", 39);
        Check.is("rule: 39 minuses", Check.rule(x, "-".repeat(39) + "t"), 0);
        Check.is("rule: worth of 39 minuses", x.worth(0, 0), 0);
        Check.is("rule: 38 minuses", Check.rule(x, "-".repeat(38) + "t"), 0);
        Check.is("rule: worth of 38 minuses", x.worth(0, 0), 3);
        Check.is("rule: none again", x.rule(), 0);
        Check.is("rule: worth of none", x.worth(0, 0), 10);
    }

    private static void ruleFault(TwoAtMost x, String text, int at) {
        Check.is("rule of '" + text + "'", Check.rule(x, text), -1 - at);
        Check.is("text behind '" + text + "'", x.count(11), 0);
        Check.is("worth stays behind '" + text + "'", x.worth(0, 0), 17);
    }

    private static void thing() {
        TwoAtMost x = Check.town(2, "ac1;b-", "a;c!b;b");
        x.lend(0, 0);
        int[] first = {5, 1, 0, 3, 1};
        int[] second = {2, -1, -1, 4, 0};
        for (int what = 0; what < 5; what++) {
            Check.is("thing(0, " + what + ")", x.thing(0, what), first[what]);
            Check.is("thing(1, " + what + ")", x.thing(1, what), second[what]);
        }
        Check.lacks("thing(2, 0)", () -> x.thing(2, 0));
        Check.lacks("thing(-1, 0)", () -> x.thing(-1, 0));
        Check.lacks("thing(0, 5)", () -> x.thing(0, 5));
        Check.lacks("thing(0, -1)", () -> x.thing(0, -1));
    }

    private static void kind() {
        TwoAtMost x = Check.town(2, "ac1;b-;abc0;c0", "c!b;b");
        Check.is("kind(0, 0)", x.kind(0, 0), 4);
        Check.is("kind(0, 1)", x.kind(0, 1), 2);
        Check.is("kind(0, 2)", x.kind(0, 2), 9);
        Check.is("kind(1, 1)", x.kind(1, 1), 0);
        Check.is("kind(1, 2)", x.kind(1, 2), 6);
        Check.things(x, "c-");
        Check.is("kind(0, 2) of a later thing", x.kind(0, 2), 25);
        x.paint(4, 2);
        x.paint(0, 1);
        Check.is("kind(0, 2) painted", x.kind(0, 2), 8);
        Check.is("kind(1, 2) painted", x.kind(1, 2), 7);
        Check.lacks("kind(2, 0)", () -> x.kind(2, 0));
        Check.lacks("kind(-1, 0)", () -> x.kind(-1, 0));
        Check.lacks("kind(0, 3)", () -> x.kind(0, 3));
        Check.lacks("kind(0, -1)", () -> x.kind(0, -1));
    }

    private static void house() {
        TwoAtMost x = Check.town(2, "a0;a0;ab0;b1", "a;b");
        x.lend(3, 0);
        Check.is("house(0, 0)", x.house(0, 0), 7);
        Check.is("house(0, 1)", x.house(0, 1), 15);
        Check.is("house(0, 2)", x.house(0, 2), 100);
        Check.is("house(0, 3)", x.house(0, 3), 1);
        Check.is("house(1, 0)", x.house(1, 0), 8);
        Check.is("house(1, 1)", x.house(1, 1), 0);
        Check.lacks("house(2, 0)", () -> x.house(2, 0));
        Check.lacks("house(-1, 0)", () -> x.house(-1, 0));
        Check.lacks("house(0, 4)", () -> x.house(0, 4));
        Check.lacks("house(0, -1)", () -> x.house(0, -1));
    }

    private static void worth() {
        TwoAtMost x = Check.town(2, "abc0;-", "a;b!a");
        Check.is("worth(0, 0)", x.worth(0, 0), 10);
        Check.is("worth(1, 1)", x.worth(1, 1), 0);
        Check.is("worth(2, 0)", x.worth(2, 0), -1);
        Check.is("worth(-1, 0)", x.worth(-1, 0), -1);
        Check.is("worth(0, 2)", x.worth(0, 2), -1);
        Check.is("worth(0, -1)", x.worth(0, -1), -1);
    }

    private static void set() {
        TwoAtMost x = new TwoAtMost();
        Check.is("set: 0", x.set(0), -1);
        Check.is("set: 5", x.set(5), -1);
        Check.is("set: still 2", x.count(3), 2);
        Check.is("set: 4", x.set(4), 2);
        Check.is("set: 1", x.set(1), 4);
        Check.is("set: is 1", x.count(3), 1);
    }

    private static void sheet() {
        TwoAtMost x = new TwoAtMost();
        x.houses(5);
        Check.is("sheet: ints", x.sheet(2, 3, 10, 5), 45);
        coins(x, 10, 15, 20, 0, 0);
        Check.is("sheet: put to 0", x.sheet(2, 2, -5, 10000), 9995);
        coins(x, 0, 9995, 0, 0, 0);
        Check.is("sheet: put to 9999", x.sheet(2, 2, 9999, 1), 19998);
        Check.is("sheet: bytes with sign", x.sheet(0, 4, 126, 1), 253);
        coins(x, 126, 127, 0, 0, 0);
        Check.is("sheet: shorts with sign", x.sheet(1, 3, 65537, 32766), 10000);
        coins(x, 1, 9999, 0, 0, 0);
        Check.is("sheet: ints round", x.sheet(2, 3, Integer.MAX_VALUE, 1), 9999);
        Check.is("sheet: none", x.sheet(2, 0, 9, 9), 0);
        coins(x, 0, 0, 0, 0, 0);
        Check.is("sheet: five", x.sheet(2, 5, 1, 1), 15);
        Check.is("sheet: below 0", x.sheet(2, -1, 9, 9), -2);
        Check.is("sheet: above 5", x.sheet(1, 6, 9, 9), -1);
        Check.is("sheet: another kind", x.sheet(4, 1, 9, 9), -1);
        Check.is("sheet: kind below 0", x.sheet(-1, -1, 9, 9), -1);
        Check.is("sheet: missing, above 5", x.sheet(3, 6, 9, 9), -1);
        coins(x, 1, 2, 3, 4, 5);
        Check.is("sheet: missing", x.sheet(3, -1, 9, 9), -3);
        coins(x, 0, 0, 0, 0, 0);
        x.houses(2);
        Check.is("sheet: more entries than HOUSES", x.sheet(2, 5, 1, 1), 3);
    }

    private static void coins(TwoAtMost x, int... want) {
        for (int house = 0; house < want.length; house++) {
            Check.is("coins of " + house, x.house(house, 2), want[house]);
        }
    }
}
