/** Promises 29 to 37: where to keep, what to change, money. */
public final class ChangeTest {
    public static void main(String[] args) {
        store();
        strike();
        border();
        exchange();
        name();
        deal();
        vote();
        pays();
        coins();
        Check.end();
    }

    private static void store() {
        TwoAtMost x = Check.town(3, "a0;a0;a0;a1;a1;b-;b2;a0", "a");
        Check.is("store: a fourth is left", x.store(1), -2);
        Check.is("store: two must go", x.store(1 + 2), 2);
        Check.row("store: two must go", x, 2, 2);
        Check.is("store: by their numbers", x.store(4 + 128), 2);
        Check.row("store: by their numbers", x, 2, 2);
        Check.is("store: the least row", x.store(1 + 2 + 4 + 64), 2);
        Check.row("store: the least row", x, 0, 2, 2, 2);
        Check.is("store: six", x.store(1 + 2 + 4 + 8 + 16 + 128), 2);
        Check.row("store: six", x, 0, 0, 2, 1, 1, 2);
        Check.is("store: seven", x.store(1 + 2 + 4 + 8 + 16 + 64 + 128), -3);
        Check.is("store: nobody's", x.store(32), -3);
        Check.is("store: bits of none", x.store(256), -1);
        Check.is("store: bits of none and nobody's", x.store(256 + 32), -1);
        Check.is("store: below 0", x.store(-1), -1);
        Check.row("store: stays", x, 0, 0, 2, 1, 1, 2);
        Check.is("store: none, but broken", x.store(0), -2);
        x.set(4);
        Check.is("store: none", x.store(0), 0);
        Check.row("store: none", x);
        Check.is("store: no moves", x.store(1 + 8), 0);
        Check.row("store: no moves", x, 0, 1);
        x.set(1);
        Check.is("store: can't be", x.store(1 + 2 + 4 + 8 + 16), -2);
        Check.is("store: a question", x.house(0, 1), 1 + 2 + 4 + 128);
        x.set(2);
        x.lend(6, 0);
        Check.is("store: lent ones, too", x.store(1 + 2 + 64), 2);
        Check.row("store: lent ones, too", x, 2, 2, 0);
    }

    private static void strike() {
        TwoAtMost x = Check.town(2, "ab0;ab0;ab0;c0", "a;c;b");
        Check.is("strike", x.strike(0), 2);
        Check.row("strike", x, 5);
        Check.is("strike: none", x.strike(1), 0);
        Check.row("strike: none", x, 0);
        Check.is("strike: none such", x.strike(2), -1);
        Check.is("strike: below", x.strike(-1), -1);
    }

    private static void border() {
        TwoAtMost x = Check.town(2, "ab0;ab0;ac0;ab1;abd1;a1", "a!f;b");
        // With b 0 keeps 2 and 1 keeps 2 of the first.
        Check.is("border", x.border(), 1);
        Check.row("border", x, 0);
        Check.is("border: a question", x.kind(0, 0), 1);
        TwoAtMost y = Check.town(2, "abcde0;abcde0;abcde0;a1;a1;a1", "abcde!f;a!f");
        Check.is("border: of the second", y.border(), 6 + 1);
        Check.row("border: of the second", y, 1);
        TwoAtMost z = Check.town(2, "a0", "abc!def");
        z.vote();
        Check.is("border: none is free", z.border(), -2);
        Check.row("border: the ROW of vote()", z, 0);
        Check.is("border: no KINDS", new TwoAtMost().border(), -2);
        TwoAtMost w = Check.town(2, "a0", "bc!a");
        Check.is("border: nothing is broken", w.border(), 3);
        Check.row("border: nothing is broken", w, 0);
        TwoAtMost v = Check.town(2, "b0;b0;b0", "b");
        Check.is("border: the first of all", v.border(), 0);
        Check.row("border: the first of all", v, 0);
        Check.is("border: a question", v.kind(0, 2), 7);
        Check.is("border: still broken", v.count(7), 1);
    }

    private static void exchange() {
        TwoAtMost x = Check.town(3, "a0;a0;a0;b1;b1;ab1;c-", "a;b");
        // HOUSE 0 gets 3 or 4 (b) for one of a: HOUSE 1 has then 2 of a; or ab for a: 0 still breaks a.
        Check.is("exchange", x.exchange(0, 1), 6);
        Check.row("exchange", x, 0, 3);
        Check.is("exchange: the other way", x.exchange(1, 0), 6);
        Check.row("exchange: the other way", x, 3, 0);
        Check.is("exchange: nothing to get", x.exchange(0, 2), 0);
        Check.row("exchange: nothing", x);
        x.broken();
        int[] wrong = {x.exchange(0, 0), x.exchange(0, 3), x.exchange(3, 0), x.exchange(-1, 0), x.exchange(0, -1)};
        for (int answer : wrong) {
            Check.is("exchange: none such", answer, -1);
        }
        Check.row("exchange: stays", x, 2, 2);
    }

    private static void name() {
        TwoAtMost x = Check.town(2, "abc0;ab-;bc1", "a");
        Check.is("name: all", x.name(7), 2);
        Check.row("name: all", x, 0);
        Check.is("name: the first", x.name(1), 2);
        Check.row("name: the first", x, 5);
        Check.is("name: a", x.name(3), 2);
        Check.row("name: a", x, 1);
        Check.is("name: none", x.name(0), 56);
        Check.row("name: none", x, 8);
        Check.is("name: no set", x.name(2), 0);
        Check.row("name: no set", x, -1);
        Check.is("name: bits of none", x.name(8), -1);
        Check.is("name: below 0", x.name(-1), -1);
    }

    private static void deal() {
        TwoAtMost x = Check.town(3, "a-;ab-;b-;a0;a0", "a;b");
        // WORTH 4, 8, 4; HOUSE 0 may have the last alone.
        Check.is("deal", x.deal(), 16);
        Check.row("deal", x, 2, 0, 1);
        Check.rule(x, "0");
        Check.is("deal: worth nothing", x.deal(), 0);
        Check.row("deal: worth nothing", x, -1, -1, -1);
        Check.rule(x, "(h=1)*5");
        Check.is("deal: to one", x.deal(), 5);
        Check.row("deal: to one", x, -1, 0, -1);
        Check.rule(x, "(h=2)*(i=2)*9+(h<2)*(i=2)*8+(i=1)*2");
        Check.is("deal: the third gets it", x.deal(), 11);
        Check.row("deal: the third gets it", x, -1, 1, 2);
        Check.rule(x, "5");
        Check.is("deal: unlike ones", x.deal(), 15);
        Check.row("deal: unlike ones", x, 2, 0, 1);
        TwoAtMost y = Check.town(2, "a0", "a");
        Check.is("deal: nothing", y.deal(), 0);
        Check.row("deal: nothing", y, -1, -1);
    }

    private static void vote() {
        TwoAtMost x = Check.town(3, "ab0;ab0;ab0;b1;b1;b1;b2;b2;b2", "a;b");
        Check.is("vote", x.vote(), 1);
        Check.row("vote", x, 2);
        x.set(3);
        Check.is("vote: none breaks", x.vote(), 0);
        Check.row("vote: none breaks", x, 0);
        TwoAtMost y = Check.town(2, "ab0;ab0;ab0", "a;b");
        Check.is("vote: none frees", y.vote(), 0);
        Check.row("vote: none frees", y, 0);
        TwoAtMost w = Check.town(2, "b0;b0;b0", "a;b");
        Check.is("vote: the first HOUSE alone", w.vote(), 1);
        Check.row("vote: the first HOUSE alone", w, 1);
        TwoAtMost z = new TwoAtMost();
        z.broken();
        Check.is("vote: no KINDS", z.vote(), -2);
        Check.row("vote: the ROW of broken()", z, 0, 0);
    }

    private static void pays() {
        TwoAtMost x = new TwoAtMost();
        pay(x, 1, 3, 10, 8, 9);
        pay(x, 1, 5, 99, 12, 13);
        pay(x, 2, 5, 20, 12, 11);
        pay(x, 50, 49, 99, 8, 3);
        pay(x, 50, 1, 99, 9, 3);
        pay(x, 7, 7, 30, 4, 1);
        pay(x, 1, 1, 4, 4, 5);
        pay(x, 1, 1, 1, 1, 2);
        int[] wrong = {x.pays(0, 1, 1), x.pays(51, 1, 1), x.pays(1, 0, 1), x.pays(1, 51, 1), x.pays(1, 1, 0),
            x.pays(1, 1, 100)};
        for (int answer : wrong) {
            Check.is("pays: others", answer, -1);
        }
    }

    private static void pay(TwoAtMost x, int one, int other, int v, int sums, int least) {
        String call = "pays(" + one + ", " + other + ", " + v + ")";
        Check.is(call, x.pays(one, other, v), sums);
        Check.row(call, x, least);
        Check.is(call + " turned", x.pays(other, one, v), sums);
    }

    private static void coins() {
        TwoAtMost x = new TwoAtMost();
        Check.is("coins: 0", x.coins(0), -1);
        Check.is("coins: 100", x.coins(100), -1);
        Check.row("coins: stays", x);
        Check.is("coins: 40", x.coins(40), 12);
        Check.row("coins: 40", x, 1, 5);
        Check.is("coins: 3", x.coins(3), 3);
        Check.row("coins: 3", x, 1, 2);
    }
}
