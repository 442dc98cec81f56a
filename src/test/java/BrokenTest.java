/** Promises 22 to 28: what is broken, and what could be kept. */
public final class BrokenTest {
    public static void main(String[] args) {
        broken();
        would();
        rid();
        most();
        alike();
        trust();
        visit();
        Check.end();
    }

    private static void broken() {
        TwoAtMost x = Check.town(3, "ab0;ab0;ab0;ab0;a1;a1;a2;a2;a2;c-;c-;c-", "a;b!c;c");
        Check.is("broken: houses", x.broken(), 5);
        // HOUSE 0 breaks a and b, HOUSE 2 breaks a: 3 together; 2 + 2 + 1 too many.
        Check.row("broken", x, 3, 5);
        x.set(4);
        Check.is("broken: none", x.broken(), 0);
        Check.row("broken: none", x, 0, 0);
        x.set(1);
        Check.is("broken: all", x.broken(), 7);
        Check.row("broken: all", x, 4, 9);
    }

    private static void would() {
        TwoAtMost x = Check.town(2, "a0;a0;b0;ab1;b-;c1;a1", "a;b;c");
        Check.is("would: a third of a", x.would(0, 3), 1);
        Check.is("would: a second of b", x.would(0, 4), 0);
        Check.is("would: none", x.would(0, 5), 0);
        Check.is("would: keeps it", x.would(0, 0), 0);
        x.set(1);
        Check.is("would: two kinds", x.would(0, 3), 3);
        Check.is("would: also what is broken now", x.would(0, 4), 3);
        Check.is("would: keeps it, though it breaks", x.would(0, 0), 0);
        x.lend(3, 0);
        Check.is("would: owns but does not keep", x.would(1, 3), 1);
        int[] wrong = {x.would(2, 0), x.would(-1, 0), x.would(0, 7), x.would(0, -1)};
        for (int answer : wrong) {
            Check.is("would: none such", answer, -1);
        }
    }

    private static void rid() {
        TwoAtMost x = Check.town(2, "a0;b0;ab0;a0;b0;ab0;c0", "a;b");
        // a: 0 2 3 5, b: 1 2 4 5: both of ab are two of each.
        Check.is("rid: both in one", x.rid(0), 2);
        Check.row("rid: both in one", x, 36);
        Check.is("rid: nothing", x.rid(1), 0);
        Check.row("rid: nothing", x, 0);
        x.set(3);
        Check.is("rid: one", x.rid(0), 1);
        Check.row("rid: the lesser of ab", x, 4);
        x.set(1);
        Check.is("rid: four", x.rid(0), 4);
        Check.row("rid: the least of four", x, 1 + 2 + 4 + 32);
        Check.is("rid: none such", x.rid(2), -1);
        Check.is("rid: below", x.rid(-1), -1);
        Check.row("rid: stays", x, 1 + 2 + 4 + 32);
    }

    private static void most() {
        TwoAtMost x = Check.town(2, "a0;a0;a0;b0;ab-;b-;b-;c-;-", "a;b;c");
        Check.is("most: of a none more", x.most(0), 3);
        // One of b (5, the least), c, and the one of no kind: 3 + 1, 4, 0.
        Check.row("most", x, 32 + 128 + 256, 4 + 4);
        Check.is("most: the other", x.most(1), 4);
        Check.row("most: the other", x, 16 + 32 + 128 + 256, 8 + 4 + 4);
        Check.rule(x, "n*10+h");
        x.most(0);
        Check.row("most: WORTH as it is now", x, 32 + 128 + 256, 120);
        Check.is("most: none such", x.most(2), -1);
        Check.is("most: below", x.most(-1), -1);
        TwoAtMost y = Check.town(2, "a0", "a");
        Check.is("most: nothing is nobody's", y.most(0), 0);
        Check.row("most: nothing is nobody's", y, 0, 0);
    }

    private static void alike() {
        TwoAtMost x = Check.town(2, "abc0;bcd-", "b;c!a;bc");
        Check.is("alike", x.alike(0, 1), 4);
        Check.row("alike", x, 6, 5);
        Check.is("alike: itself", x.alike(1, 1), 6);
        Check.row("alike: itself", x, 14, 7);
        int[] wrong = {x.alike(0, 2), x.alike(2, 0), x.alike(-1, 0), x.alike(0, -1)};
        for (int answer : wrong) {
            Check.is("alike: none such", answer, -1);
        }
    }

    private static void trust() {
        TwoAtMost x = Check.town(4, "a0;b0;c0;d1;e-", "a");
        x.lend(0, 1);
        x.lend(1, 3);
        x.lend(3, 0);
        Check.rule(x, "10*h+i+o*100");
        Check.is("trust: houses", x.trust(0), 10);
        Check.row("trust", x, 3, 100 + 101);
        Check.is("trust: of 1", x.trust(1), 1);
        Check.row("trust: of 1", x, 8, 113);
        Check.is("trust: none", x.trust(2), 0);
        Check.row("trust: none", x, 0, 0);
        Check.is("trust: none such", x.trust(4), -1);
        Check.is("trust: below", x.trust(-1), -1);
    }

    private static void visit() {
        TwoAtMost x = Check.town(3, "a0;a0;a0;ab2;ab2;ab2;b2", "a;b");
        x.hours(1);
        x.undo();
        Check.is("visit: now", x.visit(0), 0);
        Check.row("visit: now", x, 4);
        Check.is("visit: the next", x.visit(1), 1);
        Check.row("visit: the next", x, 0);
        Check.is("visit: the last", x.visit(2), 2);
        Check.row("visit: the last", x, 32 + 64);
        Check.is("visit: a question", x.house(2, 1), 8 + 16 + 32 + 64);
        x.hours(1);
        Check.is("visit: was just there", x.visit(0), 2);
        Check.row("visit: was just there", x, 0);
        Check.is("visit: two hours", x.visit(2), 1);
        Check.is("visit: none such", x.visit(3), -1);
        Check.is("visit: below", x.visit(-1), -1);
    }
}
