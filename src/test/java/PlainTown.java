import java.util.ArrayList;
import java.util.Arrays;
import java.util.List;

/**
 * The document written down a second time, as plainly and slowly as can be, for AgreeTest to compare with.
 * It has every call of the face that changes or asks something; answers are longs, exceptions are THROWN.
 */
final class PlainTown {
    static final long THROWN = Long.MIN_VALUE;

    private record Kind(int must, int mustNot) {
        boolean has(int traits) {
            return (traits & must) == must && (traits & mustNot) == 0;
        }
    }

    private static final class Save {
        List<int[]> things = new ArrayList<>();
        int[] coins;
        int hour;
    }

    private static final class Fault extends RuntimeException {
        private static final long serialVersionUID = 1;
        final int at;

        Fault(int at) {
            this.at = at;
        }
    }

    // Of each THING: traits, owner, keeper.
    private List<int[]> things = new ArrayList<>();
    private final List<Kind> kinds = new ArrayList<>();
    private int[] coins = {100, 100, 100, 100, 100};
    private int houses = 2;
    private int most = 2;
    private int hour = 0;
    private String text = "";
    private String rule = "";
    private List<Long> row = new ArrayList<>();
    private final List<Save> undos = new ArrayList<>();
    private final Save[] shelf = new Save[2];
    private final List<int[]> heard = new ArrayList<>();

    // Reading, with a place in the text.
    private String source;
    private int at;

    long call(String name, int... a) {
        switch (name) {
            case "sign": return sign(a[0]);
            case "end": return end(a[0]);
            case "houses": return houses(a[0]);
            case "things": return read(76, "things");
            case "kinds": return read(60, "kinds");
            case "rule": return read(40, "rule");
            case "thing": return thing(a[0], a[1]);
            case "kind": return kind(a[0], a[1]);
            case "house": return house(a[0], a[1]);
            case "worth": return isThing(a[0]) && isHouse(a[1]) ? worth(a[0], a[1]) : -1;
            case "set": return set(a[0]);
            case "sheet": return sheet(a[0], a[1], a[2], a[3]);
            case "buy": case "give": case "lend": case "claim": case "paint": return alone(name, a[0], a[1]);
            case "hours": return hours(a[0]);
            case "day": return read(60, "day");
            case "undo": return undo();
            case "broken": return broken();
            case "would": return would(a[0], a[1]);
            case "rid": return rid(a[0]);
            case "most": return most(a[0]);
            case "alike": return alike(a[0], a[1]);
            case "trust": return trust(a[0]);
            case "visit": return visit(a[0]);
            case "store": return store(a[0]);
            case "strike": return strike(a[0]);
            case "border": return border();
            case "exchange": return exchange(a[0], a[1]);
            case "name": return name(a[0]);
            case "deal": return deal();
            case "vote": return vote();
            case "pays": return pays(a[0], a[1], a[2]);
            case "coins": return coins(a[0]);
            case "had": return had(a[0], a[1]);
            case "heard": return heard(a[0], a[1]);
            case "forget": int before = heard.size(); heard.clear(); return before;
            case "whose": return whose();
            case "ask": return ask();
            case "seen": return seen(a[0], a[1], a[2]);
            case "finds": return finds(a[0], a[1], a[2]);
            case "rests": return rests(a[0], a[1]);
            case "years": return years(a[0], a[1]);
            case "keep": return keep(a[0]);
            case "again": return again(a[0]);
            case "count": return count(a[0]);
            case "row": return a[0] >= 0 && a[0] < row.size() ? row.get(a[0]) : THROWN;
            default: throw new IllegalArgumentException(name);
        }
    }

    private void tell(long... numbers) {
        row = new ArrayList<>();
        for (long number : numbers) {
            row.add(number);
        }
    }

    private boolean isThing(int t) {
        return t >= 0 && t < things.size();
    }

    private boolean isHouse(int h) {
        return h >= 0 && h < houses;
    }

    private boolean isKind(int k) {
        return k >= 0 && k < kinds.size();
    }

    private int kept(int h) {
        int set = 0;
        for (int t = 0; t < things.size(); t++) {
            set += things.get(t)[2] == h ? 1 << t : 0;
        }
        return set;
    }

    private int kindsOf(int t) {
        int set = 0;
        for (int k = 0; k < kinds.size(); k++) {
            set += kinds.get(k).has(things.get(t)[0]) ? 1 << k : 0;
        }
        return set;
    }

    private int howMany(int set, Kind kind) {
        int n = 0;
        for (int t = 0; t < things.size(); t++) {
            n += (set & 1 << t) != 0 && kind.has(things.get(t)[0]) ? 1 : 0;
        }
        return n;
    }

    private int breaks(int set) {
        return breaks(set, kinds);
    }

    private int breaks(int set, List<Kind> those) {
        int result = 0;
        for (int k = 0; k < those.size(); k++) {
            result += howMany(set, those.get(k)) > most ? 1 << k : 0;
        }
        return result;
    }

    private int breakers(List<Kind> those) {
        int result = 0;
        for (int h = 0; h < houses; h++) {
            result += breaks(kept(h), those) != 0 ? 1 << h : 0;
        }
        return result;
    }

    private Save save() {
        Save save = new Save();
        for (int[] thing : things) {
            save.things.add(thing.clone());
        }
        save.coins = coins.clone();
        save.hour = hour;
        return save;
    }

    private void load(Save save) {
        things = new ArrayList<>();
        for (int[] thing : save.things) {
            things.add(thing.clone());
        }
        coins = save.coins.clone();
        hour = save.hour;
    }

    private void remember(Save save) {
        undos.add(save);
        if (undos.size() > 12) {
            undos.remove(0);
        }
    }

    private void forgetSaves() {
        undos.clear();
        shelf[0] = null;
        shelf[1] = null;
    }

    private long sign(int v) {
        if (text.length() > 76) {
            return -1;
        }
        text += "" + (char) (v >>> 24) + (char) (v >> 16 & 255) + (char) (v >> 8 & 255) + (char) (v & 255);
        return text.length();
    }

    private long end(int n) {
        if (n < 0 || n > text.length()) {
            return 0;
        }
        text = text.substring(0, n);
        return 1;
    }

    private long houses(int n) {
        if (n < 1 || n > 5) {
            return -1;
        }
        for (int[] thing : things) {
            if (thing[1] >= n || thing[2] >= n) {
                return -1;
            }
        }
        int before = houses;
        for (int h = houses; h < n; h++) {
            coins[h] = 100;
        }
        houses = n;
        forgetSaves();
        return before;
    }

    // ---- reading

    private long read(int limit, String what) {
        String whole = text;
        text = "";
        if (whole.isEmpty() && what.equals("rule")) {
            rule = "";
        }
        if (whole.isEmpty() && what.equals("day")) {
            tell(0, Integer.bitCount(breakers(kinds)));
        }
        if (whole.isEmpty()) {
            return 0;
        }
        source = whole.length() > limit ? whole.substring(0, limit) : whole;
        at = 0;
        try {
            List<int[]> lines = new ArrayList<>();
            if (what.equals("rule")) {
                expression(0, 0, 0);
            } else {
                lines(what, lines);
            }
            if (at < whole.length()) {
                throw new Fault(at);
            }
            return take(what, whole, lines);
        } catch (Fault fault) {
            return -1 - fault.at;
        }
    }

    private long take(String what, String whole, List<int[]> lines) {
        if (what.equals("rule")) {
            rule = whole;
            return 0;
        }
        if (what.equals("day")) {
            return day(lines);
        }
        for (int[] line : lines) {
            if (what.equals("things")) {
                things.add(new int[] {line[0], line[1], line[1]});
            } else {
                kinds.add(new Kind(line[0], line[1]));
            }
        }
        forgetSaves();
        return lines.size();
    }

    private char next() {
        return at < source.length() ? source.charAt(at) : '\uffff';
    }

    private void lines(String what, List<int[]> lines) {
        int room = what.equals("things") ? 12 - things.size() : what.equals("kinds") ? 6 - kinds.size() : 99;
        while (true) {
            if (lines.size() >= room) {
                throw new Fault(at);
            }
            lines.add(what.equals("things") ? thingLine() : what.equals("kinds") ? kindLine() : act());
            if (next() != ';') {
                return;
            }
            at++;
        }
    }

    private int letters(int barred) {
        int set = 0;
        int last = -1;
        while (next() >= 'a' && next() <= 'f') {
            int trait = next() - 'a';
            if (trait <= last || (barred & 1 << trait) != 0) {
                throw new Fault(at);
            }
            set += 1 << trait;
            last = trait;
            at++;
        }
        return set;
    }

    private int one(String among) {
        int which = among.indexOf(next());
        if (which < 0) {
            throw new Fault(at);
        }
        at++;
        return which;
    }

    private int[] thingLine() {
        int traits = letters(0);
        return new int[] {traits, one("-01234".substring(0, houses + 1)) - 1};
    }

    private int[] kindLine() {
        int must = letters(0);
        if (must == 0) {
            throw new Fault(at);
        }
        int mustNot = 0;
        if (next() == '!') {
            at++;
            mustNot = letters(must);
            if (mustNot == 0) {
                throw new Fault(at);
            }
        }
        return new int[] {must, mustNot};
    }

    private int[] act() {
        int act = one("bglcph");
        if (act == 5) {
            int number = one("0123456789");
            if (next() >= '0' && next() <= '9') {
                number = 10 * number + one("0123456789");
            }
            return new int[] {act, number, 0};
        }
        int thing = one("abcdefghijkl");
        return new int[] {act, thing, act == 4 ? one("abcdef") : one("0123456789")};
    }

    // THE RULE is read and computed in one.

    private int expression(int depth, int t, int h) {
        int left = sum(depth, t, h);
        if ("<>=".indexOf(next()) < 0) {
            return left;
        }
        int which = one("<>=");
        int right = sum(depth, t, h);
        boolean holds = which == 0 ? left < right : which == 1 ? left > right : left == right;
        return holds ? 1 : 0;
    }

    private int sum(int depth, int t, int h) {
        int value = product(depth, t, h);
        while (next() == '+' || next() == '-') {
            boolean plus = one("-+") == 1;
            int other = product(depth, t, h);
            value = plus ? value + other : value - other;
        }
        return value;
    }

    private int product(int depth, int t, int h) {
        int value = signed(depth, t, h);
        while (next() == '*' || next() == '/') {
            boolean times = one("/*") == 1;
            int other = signed(depth, t, h);
            value = times ? value * other : other == 0 ? 0 : value / other;
        }
        return value;
    }

    private int signed(int depth, int t, int h) {
        if (next() == '-') {
            at++;
            return -signed(depth, t, h);
        }
        if (next() >= '0' && next() <= '9') {
            int value = 0;
            for (int i = 0; i < 3 && next() >= '0' && next() <= '9'; i++) {
                value = 10 * value + one("0123456789");
            }
            return value;
        }
        if (next() == '(' && depth < 4) {
            at++;
            int value = expression(depth + 1, t, h);
            one(")");
            return value;
        }
        int which = one("tkhnio");
        if (!isThing(t)) {
            return 0;
        }
        int[] values = {Integer.bitCount(things.get(t)[0]), Integer.bitCount(kindsOf(t)), h, Integer.bitCount(kept(h)), t,
            things.get(t)[1] == h ? 1 : 0};
        return values[which];
    }

    private int worth(int t, int h) {
        source = rule.isEmpty() ? "t*3+k" : rule;
        at = 0;
        return Math.max(0, Math.min(999, expression(0, t, h)));
    }

    private int worthOf(int set, int h) {
        int sum = 0;
        for (int t = 0; t < things.size(); t++) {
            sum += (set & 1 << t) != 0 ? worth(t, h) : 0;
        }
        return sum;
    }

    // ---- looking

    private long thing(int t, int what) {
        if (!isThing(t) || what < 0 || what > 4) {
            return THROWN;
        }
        int[] thing = things.get(t);
        return what < 3 ? thing[what] : what == 3 ? kindsOf(t) : thing[1] != thing[2] ? 1 : 0;
    }

    private long kind(int k, int what) {
        if (!isKind(k) || what < 0 || what > 2) {
            return THROWN;
        }
        if (what < 2) {
            return what == 0 ? kinds.get(k).must() : kinds.get(k).mustNot();
        }
        int set = 0;
        for (int t = 0; t < things.size(); t++) {
            set += kinds.get(k).has(things.get(t)[0]) ? 1 << t : 0;
        }
        return set;
    }

    private long house(int h, int what) {
        if (!isHouse(h) || what < 0 || what > 3) {
            return THROWN;
        }
        int owned = 0;
        for (int t = 0; t < things.size(); t++) {
            owned += things.get(t)[1] == h ? 1 << t : 0;
        }
        return what == 0 ? owned : what == 1 ? kept(h) : what == 2 ? coins[h] : breaks(kept(h));
    }

    private long set(int v) {
        if (v < 1 || v > 4) {
            return -1;
        }
        int before = most;
        most = v;
        return before;
    }

    private long sheet(int kind, int n, int f, int step) {
        if (kind < 0 || kind > 3 || n > 5) {
            return -1;
        }
        if (kind == 3) {
            Arrays.fill(coins, 0, houses, 0);
            return -3;
        }
        if (n < 0) {
            return -2;
        }
        int sum = 0;
        int entry = f;
        for (int h = 0; h < houses; h++) {
            int value = kind == 0 ? (byte) entry : kind == 1 ? (short) entry : entry;
            coins[h] = h >= n ? 0 : value < 0 ? 0 : value > 9999 ? 9999 : value;
            sum += coins[h];
            entry += step;
        }
        return sum;
    }

    // ---- acts

    private long alone(String name, int t, int other) {
        Save save = save();
        long answer = done("bglcp".indexOf(name.charAt(0)), t, other);
        if (answer >= 0) {
            remember(save);
        }
        return answer;
    }

    private long done(int act, int t, int other) {
        if (act == 5) {
            return t > 60 ? -1 : pass(t);
        }
        boolean there = act == 4 ? other >= 0 && other < 6 : isHouse(other);
        if (!isThing(t) || !there) {
            return -1;
        }
        int[] thing = things.get(t);
        if (act == 4) {
            return thing[0] ^= 1 << other;
        }
        if (act == 0) {
            return buy(t, thing, other);
        }
        if (thing[1] < 0) {
            return -2;
        }
        int before = act == 2 ? thing[2] : thing[1];
        if (act == 1) {
            if (thing[1] != thing[2]) {
                return -2;
            }
            if (thing[1] == other) {
                return -3;
            }
        }
        if (act == 2 && thing[2] == other || act == 3 && (thing[1] == other || thing[2] == other)) {
            return -3;
        }
        if (act == 3 && (breaks(kept(thing[2])) & kindsOf(t)) == 0) {
            return -4;
        }
        thing[1] = act == 2 ? thing[1] : other;
        thing[2] = other;
        return before;
    }

    private long buy(int t, int[] thing, int h) {
        if (thing[1] >= 0) {
            return -2;
        }
        int price = worth(t, h);
        if (price > coins[h]) {
            return -3;
        }
        if ((breaks(kept(h) | 1 << t) & kindsOf(t)) != 0) {
            return -4;
        }
        coins[h] -= price;
        thing[1] = h;
        thing[2] = h;
        return coins[h];
    }

    private int hourPasses() {
        int h = hour % houses;
        int taken = 0;
        for (Kind kind : kinds) {
            while (howMany(kept(h), kind) > most) {
                int t = things.size() - 1;
                while (things.get(t)[2] != h || !kind.has(things.get(t)[0])) {
                    t--;
                }
                things.get(t)[1] = -1;
                things.get(t)[2] = -1;
                taken |= 1 << t;
            }
        }
        hour++;
        return taken;
    }

    private int pass(int n) {
        int taken = 0;
        for (int i = 0; i < n; i++) {
            taken |= hourPasses();
        }
        return taken;
    }

    private long hours(int n) {
        if (n < 0 || n > 60) {
            return -1;
        }
        Save save = save();
        int taken = pass(n);
        if (n > 0) {
            remember(save);
        }
        tell(taken, hour);
        return Integer.bitCount(taken);
    }

    private long day(List<int[]> acts) {
        Save save = save();
        int count = 0;
        while (count < acts.size() && done(acts.get(count)[0], acts.get(count)[1], acts.get(count)[2]) >= 0) {
            count++;
        }
        if (count > 0) {
            remember(save);
        }
        tell(count < acts.size() ? 1 : 0, Integer.bitCount(breakers(kinds)));
        return count;
    }

    private long undo() {
        if (undos.isEmpty()) {
            return -1;
        }
        load(undos.remove(undos.size() - 1));
        return undos.size();
    }

    // ---- what is broken

    private long broken() {
        int together = 0;
        int tooMany = 0;
        for (int h = 0; h < houses; h++) {
            for (Kind kind : kinds) {
                int n = howMany(kept(h), kind);
                together += n > most ? 1 : 0;
                tooMany += n > most ? n - most : 0;
            }
        }
        tell(together, tooMany);
        return breakers(kinds);
    }

    private long would(int h, int t) {
        if (!isHouse(h) || !isThing(t)) {
            return -1;
        }
        return things.get(t)[2] == h ? 0 : breaks(kept(h) | 1 << t);
    }

    private long rid(int h) {
        if (!isHouse(h)) {
            return -1;
        }
        for (int n = 0; n <= 12; n++) {
            for (int set = 0; set < 1 << things.size(); set++) {
                if (Integer.bitCount(set) == n && (set & ~kept(h)) == 0 && breaks(kept(h) & ~set) == 0) {
                    tell(set);
                    return n;
                }
            }
        }
        throw new IllegalStateException();
    }

    private long most(int h) {
        if (!isHouse(h)) {
            return -1;
        }
        for (int n = 12; n >= 0; n--) {
            for (int set = 0; set < 1 << things.size(); set++) {
                if (Integer.bitCount(set) == n && (set & ~kept(-1)) == 0 && noneMore(h, set)) {
                    tell(set, worthOf(set, h));
                    return n;
                }
            }
        }
        throw new IllegalStateException();
    }

    private boolean noneMore(int h, int set) {
        for (Kind kind : kinds) {
            int before = howMany(kept(h), kind);
            int after = howMany(kept(h) | set, kind);
            if (after > most && (before <= most || after > before)) {
                return false;
            }
        }
        return true;
    }

    private long alike(int one, int other) {
        if (!isThing(one) || !isThing(other)) {
            return -1;
        }
        int n = 0;
        int both = 0;
        for (int trait = 0; trait < 6; trait++) {
            boolean first = (things.get(one)[0] & 1 << trait) != 0;
            boolean second = (things.get(other)[0] & 1 << trait) != 0;
            n += first == second ? 1 : 0;
            both += first && second ? 1 << trait : 0;
        }
        tell(both, kindsOf(one) & kindsOf(other));
        return n;
    }

    private long trust(int h) {
        if (!isHouse(h)) {
            return -1;
        }
        int keepers = 0;
        int set = 0;
        for (int t = 0; t < things.size(); t++) {
            if (things.get(t)[1] == h && things.get(t)[2] != h) {
                keepers |= 1 << things.get(t)[2];
                set |= 1 << t;
            }
        }
        tell(set, worthOf(set, h));
        return keepers;
    }

    private long visit(int h) {
        if (!isHouse(h)) {
            return -1;
        }
        Save save = save();
        int n = 0;
        while (hour % houses != h) {
            hourPasses();
            n++;
        }
        int taken = hourPasses();
        load(save);
        tell(taken);
        return n;
    }

    // ---- where to keep, what to change

    private long store(int those) {
        if (those < 0 || those >= 1 << things.size()) {
            return -1;
        }
        if (Integer.bitCount(those) > 6 || (those & kept(-1)) != 0) {
            return -3;
        }
        int[] best = null;
        int fewest = 99;
        int n = Integer.bitCount(those);
        for (int code = 0; code < (int) Math.pow(houses, n); code++) {
            int[] places = new int[n];
            for (int i = n - 1, rest = code; i >= 0; i--, rest /= houses) {
                places[i] = rest % houses;
            }
            int moves = movesTo(those, places);
            if (moves < fewest) {
                fewest = moves;
                best = places;
            }
        }
        if (best == null) {
            return -2;
        }
        tell(Arrays.stream(best).asLongStream().toArray());
        return fewest;
    }

    private int movesTo(int those, int[] places) {
        Save save = save();
        int moves = 0;
        int i = 0;
        for (int t = 0; t < things.size(); t++) {
            if ((those & 1 << t) != 0) {
                moves += things.get(t)[2] == places[i] ? 0 : 1;
                things.get(t)[2] = places[i];
                i++;
            }
        }
        int bad = breakers(kinds);
        load(save);
        return bad == 0 ? moves : 99;
    }

    private long strike(int h) {
        if (!isHouse(h)) {
            return -1;
        }
        tell(breaks(kept(h)));
        return Integer.bitCount(breaks(kept(h)));
    }

    private long border() {
        int best = -2;
        int fewest = 99;
        for (int k = 0; k < kinds.size(); k++) {
            Kind kind = kinds.get(k);
            for (int trait = 0; trait < 6; trait++) {
                if (((kind.must() | kind.mustNot()) & 1 << trait) != 0) {
                    continue;
                }
                List<Kind> changed = new ArrayList<>(kinds);
                changed.set(k, new Kind(kind.must() | 1 << trait, kind.mustNot()));
                int n = Integer.bitCount(breakers(changed));
                if (n < fewest) {
                    fewest = n;
                    best = 6 * k + trait;
                }
            }
        }
        if (best >= 0) {
            tell(fewest);
        }
        return best;
    }

    private long exchange(int one, int other) {
        if (!isHouse(one) || !isHouse(other) || one == other) {
            return -1;
        }
        tell();
        int pairs = 0;
        for (int s = 0; s < things.size(); s++) {
            for (int t = 0; t < things.size(); t++) {
                if (things.get(s)[2] != one || things.get(t)[2] != other) {
                    continue;
                }
                int first = kept(one) & ~(1 << s) | 1 << t;
                int second = kept(other) & ~(1 << t) | 1 << s;
                if (breaks(first) == 0 && breaks(second) == 0) {
                    if (pairs == 0) {
                        tell(s, t);
                    }
                    pairs++;
                }
            }
        }
        return pairs;
    }

    private int having(int traits) {
        int set = 0;
        for (int t = 0; t < things.size(); t++) {
            set += (things.get(t)[0] & traits) == traits ? 1 << t : 0;
        }
        return set;
    }

    private long name(int those) {
        if (those < 0 || those >= 1 << things.size()) {
            return -1;
        }
        int n = 0;
        int best = -1;
        for (int traits = 63; traits >= 0; traits--) {
            if (having(traits) == those) {
                n++;
                best = best < 0 || Integer.bitCount(traits) <= Integer.bitCount(best) ? traits : best;
            }
        }
        tell(best);
        return n;
    }

    private long deal() {
        long[] choice = new long[houses];
        long[] best = new long[houses];
        Arrays.fill(best, -1);
        int[][] gains = new int[houses][things.size()];
        for (int h = 0; h < houses; h++) {
            for (int t = 0; t < things.size(); t++) {
                boolean allowed = things.get(t)[1] < 0 && (breaks(kept(h) | 1 << t) & kindsOf(t)) == 0;
                gains[h][t] = allowed ? worth(t, h) : -1;
            }
        }
        int sum = deal(0, 0, 0, choice, new Object[] {best, gains, new int[] {-1}});
        tell(best);
        return sum;
    }

    private int deal(int h, int used, int sum, long[] choice, Object[] search) {
        int[] found = (int[]) search[2];
        if (h == houses) {
            if (sum > found[0]) {
                found[0] = sum;
                System.arraycopy(choice, 0, (long[]) search[0], 0, houses);
            }
            return found[0];
        }
        choice[h] = -1;
        deal(h + 1, used, sum, choice, search);
        for (int t = 0; t < things.size(); t++) {
            int gain = ((int[][]) search[1])[h][t];
            if ((used & 1 << t) == 0 && gain >= 0) {
                choice[h] = t;
                deal(h + 1, used | 1 << t, sum + gain, choice, search);
            }
        }
        return found[0];
    }

    private long vote() {
        if (kinds.isEmpty()) {
            return -2;
        }
        int best = 0;
        int freed = -1;
        for (int k = 0; k < kinds.size(); k++) {
            List<Kind> left = new ArrayList<>(kinds);
            left.remove(k);
            int n = Integer.bitCount(breakers(kinds) & ~breakers(left));
            if (n > freed) {
                freed = n;
                best = k;
            }
        }
        tell(freed);
        return best;
    }

    // ---- money

    private static boolean canPay(int x, int y, int sum) {
        for (int i = 0; i < 81; i++) {
            int there = i % 3 * x + i / 3 % 3 * y;
            int back = i / 9 % 3 * x + i / 27 % 3 * y;
            if (there - back == sum) {
                return true;
            }
        }
        return false;
    }

    private long pays(int x, int y, int v) {
        if (x < 1 || x > 50 || y < 1 || y > 50 || v < 1 || v > 99) {
            return -1;
        }
        int n = 0;
        int least = v + 1;
        for (int sum = v; sum > 0; sum--) {
            boolean can = canPay(x, y, sum);
            n += can ? 1 : 0;
            least = can ? least : sum;
        }
        tell(least);
        return n;
    }

    private long coins(int v) {
        if (v < 1 || v > 99) {
            return -1;
        }
        long best = -1;
        long[] pair = new long[2];
        for (int x = 1; x <= 30; x++) {
            for (int y = x + 1; y <= 30; y++) {
                long n = pays(x, y, v);
                if (n > best) {
                    best = n;
                    pair = new long[] {x, y};
                }
            }
        }
        tell(pair);
        return best;
    }

    // ---- of what there were three

    private long had(int h, int n) {
        if (!isHouse(h) || n < 0 || n > 12) {
            return -1;
        }
        int sets = 0;
        int best = -1;
        int single = 0;
        for (int traits = 63; traits >= 0; traits--) {
            if (Integer.bitCount(having(traits) & kept(h)) == n) {
                sets++;
                best = best < 0 || Integer.bitCount(traits) <= Integer.bitCount(best) ? traits : best;
                single += Integer.bitCount(traits) == 1 ? 1 : 0;
            }
        }
        tell(best, single);
        return sets;
    }

    private long heard(int t, int is) {
        if (!isThing(t) || is < 0 || is > 1 || heard.size() == 12) {
            return -1;
        }
        heard.add(new int[] {t, is});
        return heard.size();
    }

    private int fitting() {
        int set = 0;
        for (int h = 0; h < houses; h++) {
            boolean fits = true;
            for (int[] fact : heard) {
                fits &= things.get(fact[0])[2] == h == (fact[1] == 1);
            }
            set += fits ? 1 << h : 0;
        }
        return set;
    }

    private long whose() {
        tell(Integer.bitCount(fitting()));
        return fitting();
    }

    private long ask() {
        if (fitting() == 0 || things.isEmpty()) {
            return -2;
        }
        int best = -1;
        int fewest = 99;
        for (int t = 0; t < things.size(); t++) {
            int yes = 0;
            int no = 0;
            for (int h = 0; h < houses; h++) {
                if ((fitting() & 1 << h) != 0) {
                    yes += things.get(t)[2] == h ? 1 : 0;
                    no += things.get(t)[2] == h ? 0 : 1;
                }
            }
            if (Math.max(yes, no) < fewest) {
                fewest = Math.max(yes, no);
                best = t;
            }
        }
        tell(fewest);
        return best;
    }

    // ---- what is seen, claims at rest

    private long[] likely(int t, int k, int p) {
        long upper = 1;
        long lower = 1;
        for (int trait = 0; trait < 6; trait++) {
            boolean has = (things.get(t)[0] & 1 << trait) != 0;
            boolean must = (kinds.get(k).must() & 1 << trait) != 0;
            boolean mustNot = (kinds.get(k).mustNot() & 1 << trait) != 0;
            if (must || mustNot) {
                upper *= has == must ? p : 10 - p;
                lower *= 10;
            }
        }
        return new long[] {upper, lower};
    }

    private long seen(int t, int k, int p) {
        if (!isThing(t) || !isKind(k) || p < 0 || p > 10) {
            return -1;
        }
        long[] fraction = likely(t, k, p);
        long by = fraction[1];
        while (fraction[0] % by != 0 || fraction[1] % by != 0) {
            by--;
        }
        tell(fraction[0] / by, fraction[1] / by);
        return 0;
    }

    private long finds(int h, int k, int p) {
        if (!isHouse(h) || !isKind(k) || p < 0 || p > 10) {
            return -1;
        }
        long[] c = new long[14];
        c[0] = 1000000;
        for (int t = 0; t < things.size(); t++) {
            if (things.get(t)[2] != h) {
                continue;
            }
            long[] fraction = likely(t, k, p);
            long q = 1000 * fraction[0] / fraction[1];
            long[] next = new long[14];
            for (int j = 0; j < 14; j++) {
                next[j] = (c[j] * (1000 - q) + (j == 0 ? 0 : c[j - 1] * q)) / 1000;
            }
            c = next;
        }
        long sum = 0;
        for (int j = most + 1; j < 14; j++) {
            sum += c[j];
        }
        return sum;
    }

    private long rests(int v, int c) {
        if (v < 0 || v > 99 || c < 0 || c > 9) {
            return -1;
        }
        int pairs = 0;
        tell();
        for (int one = 9; one >= 0; one--) {
            for (int other = 9; other >= 0; other--) {
                boolean rests = true;
                for (int x = 0; x < 10; x++) {
                    rests &= has(x, other, v, c) <= has(one, other, v, c) && has(x, one, v, c) <= has(other, one, v, c);
                }
                if (rests) {
                    pairs++;
                    tell(one, other);
                }
            }
        }
        return pairs;
    }

    private static int has(int own, int other, int v, int c) {
        return (own > other ? v : own == other ? v / 2 : 0) - c * own;
    }

    private long years(int seed, int n) {
        if (things.isEmpty()) {
            return -2;
        }
        if (n < 1 || n > 60) {
            return -1;
        }
        Save save = save();
        int r = seed;
        int given = 0;
        int taken = 0;
        for (int i = 0; i < n; i++) {
            r = r * 1103515245 + 12345;
            int t = (int) (((r & 0xffffffffL) / 65536) % things.size());
            r = r * 1103515245 + 12345;
            int h = (int) (((r & 0xffffffffL) / 65536) % houses);
            if (things.get(t)[1] >= 0) {
                things.get(t)[1] = h;
                things.get(t)[2] = h;
                given++;
            }
            taken += Integer.bitCount(hourPasses());
        }
        int bad = Integer.bitCount(breakers(kinds));
        load(save);
        tell(given, bad);
        return taken;
    }

    // ---- kept

    private long keep(int i) {
        if (i < 0 || i > 1) {
            return 0;
        }
        shelf[i] = save();
        return 1;
    }

    private long again(int i) {
        if (i < 0 || i > 1 || shelf[i] == null) {
            return 0;
        }
        load(shelf[i]);
        undos.clear();
        return 1;
    }

    private long count(int what) {
        int lent = 0;
        for (int t = 0; t < things.size(); t++) {
            lent += things.get(t)[1] != things.get(t)[2] ? 1 << t : 0;
        }
        int[] counts = {houses, things.size(), kinds.size(), most, hour, kept(-1), lent, breakers(kinds), heard.size(),
            undos.size(), row.size(), text.length()};
        return what >= 0 && what < counts.length ? counts[what] : -1;
    }
}
