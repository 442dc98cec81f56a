import com.sun.management.ThreadMXBean;
import java.lang.management.ManagementFactory;

/** All of a run lives in one room: an object is small, and no call behind the constructor makes anything. */
public final class RoomTest {
    private static final int OBJECT_BYTES = 12000;
    private static final int ROUNDS = 1000;

    public static void main(String[] args) {
        ThreadMXBean memory = (ThreadMXBean) ManagementFactory.getThreadMXBean();
        long thread = Thread.currentThread().getId();
        TwoAtMost x = town();
        for (int i = 0; i < ROUNDS; i++) {
            callAll(x, i);
        }
        long before = memory.getThreadAllocatedBytes(thread);
        for (int i = 0; i < ROUNDS; i++) {
            callAll(x, i);
        }
        long after = memory.getThreadAllocatedBytes(thread);
        // The machine and the counting make a little once; an object a round would be 16 bytes and more.
        Check.is("a round of calls makes no object", (after - before) / ROUNDS < 16, true);
        before = memory.getThreadAllocatedBytes(thread);
        for (int i = 0; i < ROUNDS; i++) {
            x = new TwoAtMost();
        }
        after = memory.getThreadAllocatedBytes(thread);
        Check.is("an object is small", (after - before) / ROUNDS < OBJECT_BYTES, true);
        Check.is("and is there", x.count(0), 2);
        Check.end();
    }

    private static TwoAtMost town() {
        TwoAtMost x = Check.town(5, "ab0;ab0;ab0;abc0;c1;bc2;d3;e4;abf-;bc-;acd-;-", "a;b;c;ab;d!c;e");
        Check.rule(x, "t*3+k-(h<n)*i+o*(t=k)+((i+1)*(n+2))/3-1");
        return x;
    }

    private static void callAll(TwoAtMost x, int i) {
        int house = i % 5;
        int thing = i % 12;
        x.keep(0);
        text(x, "bi1;ga1;lb2;pac;cd3;h7");
        x.day();
        text(x, "t+(k*2)/3-(h=1)");
        x.rule();
        text(x, "x");
        x.things();
        text(x, "x");
        x.kinds();
        x.buy(thing, house);
        x.give(thing, house);
        x.lend(thing, house);
        x.claim(thing, house);
        x.paint(thing, house);
        x.hours(3);
        x.undo();
        x.broken();
        x.would(house, thing);
        x.rid(house);
        x.most(house);
        x.alike(thing, 0);
        x.trust(house);
        x.visit(house);
        x.store(7);
        x.strike(house);
        x.border();
        x.exchange(0, house);
        x.name(thing);
        x.deal();
        x.vote();
        x.pays(1, 1 + house, 99);
        x.coins(1 + i % 99);
        x.had(house, 2);
        x.heard(thing, 0);
        x.whose();
        x.ask();
        x.forget();
        x.seen(thing, 0, 7);
        x.finds(house, 0, 7);
        x.rests(i % 100, house);
        x.years(i, 60);
        x.set(1 + i % 4);
        x.sheet(2, 5, 100, i);
        x.worth(thing, house);
        x.thing(thing, 3);
        x.kind(house, 2);
        x.house(house, 3);
        x.count(7);
        x.row(0);
        x.again(0);
        x.houses(5);
    }

    private static void text(TwoAtMost x, String signs) {
        for (int i = 0; i < signs.length(); i += 4) {
            int four = 0;
            for (int j = i; j < i + 4; j++) {
                four = four << 8 | (j < signs.length() ? signs.charAt(j) : 0);
            }
            x.sign(four);
        }
        x.end(signs.length());
    }
}
