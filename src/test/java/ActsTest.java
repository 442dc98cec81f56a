/** Promises 14 to 21: acts, A DAY, and what is undone. */
public final class ActsTest {
    public static void main(String[] args) {
        buy();
        give();
        lend();
        claim();
        paint();
        hours();
        dayThatIsDone();
        dayThatCannotBeRead();
        undo();
        undoOfTwelve();
        undoForgotten();
        Check.end();
    }

    private static void buy() {
        TwoAtMost x = Check.town(2, "a0;a0;ab-;b-;abcdef-;-", "a;b!c");
        Check.rule(x, "t*10+n");
        Check.is("buy: somebody's", x.buy(0, 1), -2);
        Check.is("buy: would break", x.buy(2, 0), -4);
        Check.is("buy: done", x.buy(2, 1), 80);
        Check.is("buy: owner", x.thing(2, 1), 1);
        Check.is("buy: keeper", x.thing(2, 2), 1);
        Check.is("buy: n counts now", x.buy(3, 1), 69);
        Check.is("buy: somebody's now", x.buy(3, 1), -2);
        Check.is("buy: for nothing but n", x.buy(5, 0), 98);
        x.sheet(2, 2, 60, 1);
        Check.is("buy: too few coins ahead of breaking", x.buy(4, 0), -3);
        Check.is("buy: one coin too few", x.buy(4, 1), -3);
        x.sheet(2, 2, 62, 0);
        Check.is("buy: just enough", x.buy(4, 1), 0);
        wrong("buy", x.buy(6, 0), x.buy(-1, 0), x.buy(0, 2), x.buy(0, -1));
        Check.is("buy: an unlike kind may be broken", brokenElsewhere().buy(3, 0), 96);
        buyOfEachKind();
    }

    private static void buyOfEachKind() {
        for (int kind = 0; kind < 6; kind++) {
            String letter = "abcdef".substring(kind, kind + 1);
            TwoAtMost x = Check.town(1, letter + "-;" + letter + "0;" + letter + "0;-", "a;b;c;d;e;f");
            Check.is("buy: a third of kind " + kind, x.buy(0, 0), -4);
            Check.is("buy: of no kind", x.buy(3, 0), 100);
            x.set(3);
            Check.is("buy: a third of three", x.buy(0, 0), 96);
            x.undo();
            x.set(2);
            x.paint(0, kind);
            Check.is("buy: painted off", x.buy(0, 0), 100);
        }
    }

    private static TwoAtMost brokenElsewhere() {
        return Check.town(2, "a0;a0;a0;b-", "a;b");
    }

    private static void wrong(String act, int... answers) {
        for (int answer : answers) {
            Check.is(act + ": none such", answer, -1);
        }
    }

    private static void give() {
        TwoAtMost x = Check.town(3, "a0;a1;b-", "a");
        Check.is("give: nobody's", x.give(2, 0), -2);
        Check.is("give: own", x.give(0, 0), -3);
        Check.is("give: done", x.give(0, 1), 0);
        Check.is("give: owner", x.thing(0, 1), 1);
        Check.is("give: keeper", x.thing(0, 2), 1);
        x.set(1);
        Check.is("give: may break", x.house(1, 3), 1);
        x.lend(1, 2);
        Check.is("give: lent", x.give(1, 0), -2);
        Check.is("give: lent, to the owner", x.give(1, 1), -2);
        Check.is("give: lent, to the keeper", x.give(1, 2), -2);
        wrong("give", x.give(3, 0), x.give(-1, 0), x.give(0, 3), x.give(0, -1));
    }

    private static void lend() {
        TwoAtMost x = Check.town(3, "a0;b-", "a");
        Check.is("lend: nobody's", x.lend(1, 0), -2);
        Check.is("lend: kept there", x.lend(0, 0), -3);
        Check.is("lend: done", x.lend(0, 1), 0);
        Check.is("lend: owner", x.thing(0, 1), 0);
        Check.is("lend: keeper", x.thing(0, 2), 1);
        Check.is("lend: on", x.lend(0, 2), 1);
        Check.is("lend: there already", x.lend(0, 2), -3);
        Check.is("lend: called back", x.lend(0, 0), 2);
        Check.is("lend: not lent", x.thing(0, 4), 0);
        wrong("lend", x.lend(2, 0), x.lend(-1, 0), x.lend(0, 3), x.lend(0, -1));
    }

    private static void claim() {
        TwoAtMost x = Check.town(3, "a0;a0;a1;b0;b-", "a;b");
        Check.is("claim: no third", x.claim(0, 1), -4);
        x.lend(2, 0);
        Check.is("claim: nobody's", x.claim(4, 1), -2);
        Check.is("claim: keeps it", x.claim(2, 0), -3);
        Check.is("claim: owns it", x.claim(2, 1), -3);
        Check.is("claim: of another kind", x.claim(3, 1), -4);
        Check.is("claim: lent one", x.claim(2, 2), 1);
        Check.is("claim: owner", x.thing(2, 1), 2);
        Check.is("claim: keeper", x.thing(2, 2), 2);
        Check.is("claim: two are left", x.claim(1, 1), -4);
        wrong("claim", x.claim(5, 0), x.claim(-1, 0), x.claim(0, 3), x.claim(0, -1));
    }

    private static void paint() {
        TwoAtMost x = Check.town(2, "a0;-", "ab");
        Check.is("paint: on", x.paint(0, 1), 3);
        Check.is("paint: of the kind", x.thing(0, 3), 1);
        Check.is("paint: off", x.paint(0, 0), 2);
        Check.is("paint: of none", x.thing(0, 3), 0);
        Check.is("paint: nobody's", x.paint(1, 5), 32);
        wrong("paint", x.paint(2, 0), x.paint(-1, 0), x.paint(0, 6), x.paint(0, -1));
    }

    private static void hours() {
        TwoAtMost x = Check.town(3, "a0;ab0;ab0;b0;ab0;a1;a1;a1", "b;a");
        Check.is("hours: below 0", x.hours(-1), -1);
        Check.is("hours: above 60", x.hours(61), -1);
        Check.is("hours: 0", x.hours(0), 0);
        Check.row("hours: 0", x, 0, 0);
        // Of b 1 2 3 4: 4 and 3 go; of a 0 1 2 are left then: 2 goes.
        Check.is("hours: 1", x.hours(1), 3);
        Check.row("hours: 1", x, 28, 1);
        Check.is("hours: nobody's then", x.thing(3, 1), -1);
        Check.is("hours: kept by none", x.thing(3, 2), -1);
        Check.is("hours: 60", x.hours(60), 1);
        Check.row("hours: 60", x, 128, 61);
        Check.is("hours: which house is next", x.visit(1), 0);
    }

    private static void dayThatIsDone() {
        TwoAtMost x = Check.town(2, "a0;a0;a1;b-", "a");
        Check.is("day: empty", x.day(), 0);
        Check.row("day: empty", x, 0, 0);
        Check.is("day: all acts", Check.day(x, "bd1;ga1;lb1;cc0;pde;h2"), 6);
        Check.row("day: all acts", x, 0, 0);
        Check.is("day: bought", x.thing(3, 1), 1);
        Check.is("day: given", x.thing(0, 1), 1);
        Check.is("day: lent", x.thing(1, 4), 1);
        Check.is("day: claimed", x.thing(2, 1), 0);
        Check.is("day: painted", x.thing(3, 0), 18);
        Check.is("day: hours", x.count(4), 2);
        Check.is("day: text", x.count(11), 0);
        Check.is("day: stops", Check.day(x, "lc1;gd1;h5"), 1);
        Check.row("day: stops", x, 1, 1);
        Check.is("day: no hour", x.count(4), 2);
        Check.is("day: no such thing", Check.day(x, "ll0"), 0);
        Check.row("day: no such thing", x, 1, 1);
        Check.is("day: no such house", Check.day(x, "la9"), 0);
        Check.is("day: 61 hours", Check.day(x, "h61"), 0);
        Check.row("day: 61 hours", x, 1, 1);
        Check.is("day: 60 hours", Check.day(x, "h60;h0;h07"), 3);
        Check.is("day: HOUR", x.count(4), 69);
    }

    private static void dayThatCannotBeRead() {
        TwoAtMost x = Check.town(2, "a0;a-", "a");
        x.broken();
        String[] texts = {"x", "b", "ba", "bm0", "b0", "baa", "ba00", "p", "pa", "pag", "pa0", "h", "ha", "h123", "h1;",
            "h1;;", ";", "ga1;y", "ga1 "};
        int[] faults = {0, 1, 2, 1, 1, 2, 3, 1, 2, 2, 2, 1, 1, 3, 3, 3, 0, 4, 3};
        for (int i = 0; i < texts.length; i++) {
            Check.is("day of '" + texts[i] + "'", Check.day(x, texts[i]), -1 - faults[i]);
            Check.is("text behind '" + texts[i] + "'", x.count(11), 0);
        }
        String sixty = "h1;".repeat(19) + "h01";
        Check.is("day: 61 signs", Check.day(x, sixty + "1"), -61);
        Check.is("day: 61 signs, no such", Check.day(x, sixty + "x"), -61);
        Check.is("day: 61 signs, ;", Check.day(x, sixty + ";h1"), -61);
        Check.is("day: 60 signs with ; last", Check.day(x, "h1;".repeat(20)), -61);
        Check.is("day: nothing was done", x.count(4), 0);
        Check.row("day: the ROW of broken()", x, 0, 0);
        Check.is("day: 60 signs", Check.day(x, sixty), 20);
        Check.is("day: 20 hours", x.count(4), 20);
    }

    private static void undo() {
        TwoAtMost x = Check.town(2, "a0;a0;a0;b-", "a");
        Check.is("undo: none", x.undo(), -1);
        x.hours(0);
        x.buy(0, 0);
        x.give(3, 0);
        x.lend(0, 0);
        x.claim(3, 0);
        x.paint(9, 0);
        x.hours(61);
        Check.day(x, "x");
        Check.day(x, "la0");
        x.day();
        Check.is("undo: none was done", x.count(9), 0);
        x.buy(3, 1);
        x.give(0, 1);
        x.lend(1, 1);
        x.paint(1, 0);
        x.hours(3);
        x.set(3);
        x.sheet(2, 2, 1, 1);
        Check.day(x, "lc1;h3;la0;la0");
        Check.is("undo: six", x.count(9), 6);
        Check.is("undo: day as one", x.undo(), 5);
        Check.is("undo: hour", x.count(4), 3);
        Check.is("undo: coins of the sheet", x.house(1, 2), 2);
        Check.is("undo: hours", x.undo(), 4);
        Check.is("undo: no hour", x.count(4), 0);
        Check.is("undo: coins ahead of the sheet", x.house(1, 2), 97);
        Check.is("undo: paint", x.undo(), 3);
        Check.is("undo: traits", x.thing(1, 0), 1);
        Check.is("undo: kinds of it", x.kind(0, 2), 7);
        Check.is("undo: lend", x.undo(), 2);
        Check.is("undo: keeper", x.thing(1, 2), 0);
        Check.is("undo: give", x.undo(), 1);
        Check.is("undo: owner", x.thing(0, 1), 0);
        Check.is("undo: buy", x.undo(), 0);
        Check.is("undo: coins", x.house(1, 2), 100);
        Check.is("undo: MOST stays", x.count(3), 3);
        Check.is("undo: no more", x.undo(), -1);
        x.set(2);
        x.claim(2, 1);
        Check.is("undo: claim", x.undo(), 0);
        Check.is("undo: claimed", x.thing(2, 2), 0);
        Check.day(x, "h0");
        Check.is("undo: a day with one act done", x.count(9), 1);
    }

    private static void undoOfTwelve() {
        TwoAtMost x = Check.town(2, "0", "");
        for (int i = 0; i < 30; i++) {
            x.hours(1);
            Check.is("undo: at most 12", x.count(9), Math.min(12, i + 1));
        }
        x.hours(1);
        x.hours(61);
        for (int i = 11; i >= 0; i--) {
            Check.is("undo: the latest twelve", x.undo(), i);
            Check.is("undo: HOUR", x.count(4), 19 + i);
        }
        Check.is("undo: a thirteenth", x.undo(), -1);
        Check.is("undo: as it was", x.count(4), 19);
    }

    private static void undoForgotten() {
        TwoAtMost x = Check.town(2, "a0", "a");
        x.paint(0, 1);
        x.things();
        x.kinds();
        x.rule();
        Check.things(x, "x");
        Check.kinds(x, "x");
        x.houses(6);
        x.again(0);
        x.keep(0);
        Check.rule(x, "t");
        Check.is("undo: not forgotten", x.count(9), 1);
        Check.things(x, "a0");
        Check.is("undo: things() forgets", x.undo(), -1);
        x.paint(0, 1);
        Check.kinds(x, "b");
        Check.is("undo: kinds() forgets", x.undo(), -1);
        x.paint(0, 1);
        x.houses(3);
        Check.is("undo: houses() forgets", x.undo(), -1);
        x.keep(1);
        x.paint(0, 1);
        x.again(1);
        Check.is("undo: again() forgets", x.undo(), -1);
    }
}
