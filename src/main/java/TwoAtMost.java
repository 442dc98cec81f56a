import java.util.NoSuchElementException;

/**
 * Two at most of anything: houses that keep things, kinds of which none may keep more than MOST.
 * What each call does is promised in the project's document. Sets are bits everywhere.
 */
public final class TwoAtMost {

    public static final int NONE = -1;

    private static final int HOUSE_ROOM = 5;
    private static final int THING_ROOM = 12;
    private static final int KIND_ROOM = 6;
    private static final int TRAIT_COUNT = 6;
    private static final int TRAIT_SETS = 64;
    private static final int MOST_TOP = 4;
    // A load counts THINGS by KINDS, five bits each: a count above MOST reaches the fifth.
    private static final int COUNT_BITS = 5;
    private static final int COUNT_TOP = 15;
    private static final int OVERFULL = 16 | 16 << 5 | 16 << 10 | 16 << 15 | 16 << 20 | 16 << 25;

    private static final int TEXT_SIGNS = 80;
    private static final int THINGS_SIGNS = 76;
    private static final int KINDS_SIGNS = 60;
    private static final int RULE_SIGNS = 40;
    private static final int DAY_SIGNS = 60;
    // 60 signs hold no more ACTS than this: the shortest has two signs, and one between.
    private static final int DAY_ACTS = 20;
    private static final int BRACKETS = 4;
    private static final int NEGATE = '~';

    private static final int FIRST_COINS = 100;
    private static final int COINS_TOP = 9999;
    private static final int WORTH_TOP = 999;
    private static final int HOURS_TOP = 60;

    private static final int UNDO_ROOM = 12;
    private static final int HEARD_ROOM = 12;
    private static final int SHELF_ROOM = 2;
    private static final int STORE_ROOM = 6;
    private static final int ROW_ROOM = 6;

    private static final int SHEET_BYTES = 0;
    private static final int SHEET_SHORTS = 1;
    private static final int SHEET_MISSING = 3;

    private static final int SUM_TOP = 99;
    private static final int COIN_TOP = 50;
    private static final int DRAWN_COIN_TOP = 30;
    private static final int AHEAD_TOP = 9;
    private static final int MILLION = 1000000;

    private final Town town;
    private final Text text;
    private final Telling telling;
    private final Rule rule;
    private final RuleReader ruleReader;
    private final Past past;
    private final long[] rowNumbers;
    private int rowSize;
    private final State[] shelf;
    private final boolean[] shelved;
    private final State spare;
    private final int[] heardThings;
    private final int[] heardAnswers;
    private int heardCount;
    private final Choosing choosing;
    private final Storing storing;
    private final Dealing dealing;
    private final Purse purse;
    private final long[] chances;

    public TwoAtMost() {
        town = new Town();
        text = new Text();
        telling = new Telling(text);
        rule = new Rule();
        ruleReader = new RuleReader(text);
        past = new Past();
        rowNumbers = new long[ROW_ROOM];
        rowSize = 0;
        shelf = new State[SHELF_ROOM];
        for (int i = 0; i < SHELF_ROOM; i++) {
            shelf[i] = new State();
        }
        shelved = new boolean[SHELF_ROOM];
        spare = new State();
        heardThings = new int[HEARD_ROOM];
        heardAnswers = new int[HEARD_ROOM];
        heardCount = 0;
        choosing = new Choosing(town);
        storing = new Storing(town);
        dealing = new Dealing(town, rule);
        purse = new Purse();
        chances = new long[THING_ROOM + 1];
    }

    // ---- houses, things, kinds

    public int sign(int v) {
        if (text.length + 4 > TEXT_SIGNS) {
            return NONE;
        }
        for (int shift = 24; shift >= 0; shift -= 8) {
            text.append((v >>> shift) & 255);
        }
        return text.length;
    }

    public boolean end(int n) {
        if (n < 0 || n > text.length) {
            return false;
        }
        text.length = n;
        return true;
    }

    public int houses(int n) {
        if (n < 1 || n > HOUSE_ROOM || town.needsHousesFrom(n)) {
            return NONE;
        }
        int before = town.houseCount;
        town.settle(n);
        forgetStates();
        return before;
    }

    public int things() {
        if (text.length == 0) {
            return 0;
        }
        int lines = telling.readThings(THING_ROOM - town.thingCount, town.houseCount);
        text.length = 0;
        if (lines > 0) {
            town.addThings(telling, lines);
            forgetStates();
        }
        return lines;
    }

    public int kinds() {
        if (text.length == 0) {
            return 0;
        }
        int lines = telling.readKinds(KIND_ROOM - town.kindCount);
        text.length = 0;
        if (lines > 0) {
            town.addKinds(telling, lines);
            forgetStates();
        }
        return lines;
    }

    public int rule() {
        if (text.length == 0) {
            rule.size = 0;
            return 0;
        }
        int answer = ruleReader.read();
        text.length = 0;
        if (answer == 0) {
            rule.copy(ruleReader.draft);
        }
        return answer;
    }

    public int thing(int thing, int what) throws NoSuchElementException {
        if (!town.hasThing(thing)) {
            throw new NoSuchElementException();
        }
        switch (what) {
            case 0:
                return town.now.traits[thing];
            case 1:
                return town.now.owner[thing];
            case 2:
                return town.now.keeper[thing];
            case 3:
                return town.kindsOf(thing);
            case 4:
                return town.isLent(thing) ? 1 : 0;
            default:
                throw new NoSuchElementException();
        }
    }

    public int kind(int kind, int what) throws NoSuchElementException {
        if (!town.hasKind(kind)) {
            throw new NoSuchElementException();
        }
        switch (what) {
            case 0:
                return town.must[kind];
            case 1:
                return town.mustNot[kind];
            case 2:
                return town.ofKind[kind];
            default:
                throw new NoSuchElementException();
        }
    }

    public int house(int house, int what) throws NoSuchElementException {
        if (!town.hasHouse(house)) {
            throw new NoSuchElementException();
        }
        switch (what) {
            case 0:
                return town.ownedBy(house);
            case 1:
                return town.keptBy(house);
            case 2:
                return town.now.coins[house];
            case 3:
                return town.brokenIn(town.keptBy(house));
            default:
                throw new NoSuchElementException();
        }
    }

    public int worth(int thing, int house) {
        if (!town.hasThing(thing) || !town.hasHouse(house)) {
            return NONE;
        }
        return rule.value(town, thing, house);
    }

    public int set(int v) {
        if (v < 1 || v > MOST_TOP) {
            return NONE;
        }
        int before = town.limit;
        town.limit = v;
        return before;
    }

    public int sheet(int kind, int n, int f, int step) {
        if (kind < SHEET_BYTES || kind > SHEET_MISSING || n > HOUSE_ROOM) {
            return NONE;
        }
        if (kind != SHEET_MISSING && n < 0) {
            return -2;
        }
        int entries = kind == SHEET_MISSING ? 0 : n;
        int sum = 0;
        for (int house = 0; house < town.houseCount; house++) {
            int coins = house < entries ? sheetEntry(kind, f + house * step) : 0;
            town.now.coins[house] = coins;
            sum += coins;
        }
        return kind == SHEET_MISSING ? -3 : sum;
    }

    // ---- acts

    public int buy(int thing, int house) {
        return doneAlone('b', thing, house);
    }

    public int give(int thing, int house) {
        return doneAlone('g', thing, house);
    }

    public int lend(int thing, int house) {
        return doneAlone('l', thing, house);
    }

    public int claim(int thing, int house) {
        return doneAlone('c', thing, house);
    }

    public int paint(int thing, int trait) {
        return doneAlone('p', thing, trait);
    }

    public int hours(int n) {
        past.mark(town.now);
        int taken = town.passHours(n);
        if (taken < 0) {
            return NONE;
        }
        if (n > 0) {
            past.hold();
        }
        tellTwo(taken, town.now.hour);
        return Integer.bitCount(taken);
    }

    public int day() {
        int acts = text.length == 0 ? 0 : telling.readDay();
        text.length = 0;
        if (acts < 0) {
            return acts;
        }
        past.mark(town.now);
        int done = 0;
        while (done < acts && done < DAY_ACTS
            && acted(telling.first[done], telling.second[done], telling.third[done]) >= 0) {
            done++;
        }
        if (done > 0) {
            past.hold();
        }
        tellTwo(done < acts ? 1 : 0, Integer.bitCount(town.breakers()));
        return done;
    }

    public int undo() {
        if (past.size == 0) {
            return NONE;
        }
        past.stepBack(town.now);
        town.sortThings();
        return past.size;
    }

    // ---- what is broken

    public int broken() {
        int brokenKinds = 0;
        int tooMany = 0;
        for (int house = 0; house < town.houseCount; house++) {
            int kept = town.keptBy(house);
            brokenKinds += Integer.bitCount(town.brokenIn(kept));
            tooMany += town.tooManyIn(kept);
        }
        tellTwo(brokenKinds, tooMany);
        return town.breakers();
    }

    public int would(int house, int thing) {
        if (!town.hasHouse(house) || !town.hasThing(thing)) {
            return NONE;
        }
        int kept = town.keptBy(house);
        int besides = kept | (1 << thing);
        return besides == kept ? 0 : town.brokenIn(besides);
    }

    public int rid(int house) {
        if (!town.hasHouse(house)) {
            return NONE;
        }
        int best = fewestToGiveAway(town.keptBy(house));
        tellOne(best);
        return Integer.bitCount(best);
    }

    public int most(int house) {
        if (!town.hasHouse(house)) {
            return NONE;
        }
        int best = choosing.leastOfMost(town.loadOf(town.keptBy(house)), town.nobodys());
        tellTwo(best, worthOfAll(best, house));
        return Integer.bitCount(best);
    }

    public int alike(int one, int other) {
        if (!town.hasThing(one) || !town.hasThing(other)) {
            return NONE;
        }
        int traitsOfOne = town.now.traits[one];
        int traitsOfOther = town.now.traits[other];
        tellTwo(traitsOfOne & traitsOfOther, town.kindsOf(one) & town.kindsOf(other));
        return TRAIT_COUNT - Integer.bitCount(traitsOfOne ^ traitsOfOther);
    }

    public int trust(int house) {
        if (!town.hasHouse(house)) {
            return NONE;
        }
        int lent = town.ownedBy(house) & town.lentOnes();
        tellTwo(lent, worthOfAll(lent, house));
        return town.keepersOf(lent);
    }

    public int visit(int house) {
        if (!town.hasHouse(house)) {
            return NONE;
        }
        // What is taken from others till then changes nothing in this HOUSE.
        tellOne(town.seizedFrom(house));
        int ahead = house - town.visited();
        return ahead < 0 ? ahead + town.houseCount : ahead;
    }

    // ---- where to keep, what to change

    public int store(int those) {
        if (!town.hasThings(those)) {
            return NONE;
        }
        if (Integer.bitCount(those) > STORE_ROOM || (those & town.nobodys()) != 0) {
            return -3;
        }
        int moves = storing.fewestMoves(those);
        if (moves >= 0) {
            tellNothing();
            for (int i = 0; i < storing.count; i++) {
                tellBesides(storing.places[i]);
            }
        }
        return moves;
    }

    public int strike(int house) {
        if (!town.hasHouse(house)) {
            return NONE;
        }
        int kinds = town.brokenIn(town.keptBy(house));
        tellOne(kinds);
        return Integer.bitCount(kinds);
    }

    public int border() {
        int best = -2;
        int fewest = HOUSE_ROOM + 1;
        for (int kind = 0; kind < town.kindCount; kind++) {
            int named = town.must[kind] | town.mustNot[kind];
            for (int trait = 0; trait < TRAIT_COUNT; trait++) {
                int breaking = ((named >> trait) & 1) != 0 ? HOUSE_ROOM + 1 : breakingIfNarrowed(kind, trait);
                if (breaking < fewest) {
                    fewest = breaking;
                    best = TRAIT_COUNT * kind + trait;
                }
            }
        }
        if (best >= 0) {
            tellOne(fewest);
        }
        return best;
    }

    public int exchange(int one, int other) {
        if (!town.hasHouse(one) || !town.hasHouse(other) || one == other) {
            return NONE;
        }
        int keptByOne = town.keptBy(one);
        int keptByOther = town.keptBy(other);
        tellNothing();
        int pairs = 0;
        for (int first = 0; first < town.thingCount; first++) {
            for (int second = 0; second < town.thingCount; second++) {
                boolean kept = ((keptByOne >> first) & 1) != 0 && ((keptByOther >> second) & 1) != 0;
                int both = (1 << first) | (1 << second);
                if (kept && town.brokenIn(keptByOne ^ both) == 0 && town.brokenIn(keptByOther ^ both) == 0) {
                    if (pairs == 0) {
                        tellTwo(first, second);
                    }
                    pairs++;
                }
            }
        }
        return pairs;
    }

    public int name(int those) {
        if (!town.hasThings(those)) {
            return NONE;
        }
        int sets = 0;
        int best = NONE;
        for (int traits = 0; traits < TRAIT_SETS; traits++) {
            if (town.havingAll(traits) == those) {
                sets++;
                best = fewerTraits(best, traits);
            }
        }
        tellOne(best);
        return sets;
    }

    public int deal() {
        int sum = dealing.mostWorth();
        tellNothing();
        for (int house = 0; house < town.houseCount; house++) {
            tellBesides(dealing.dealt[house]);
        }
        return sum;
    }

    public int vote() {
        if (town.kindCount == 0) {
            return -2;
        }
        int best = 0;
        int mostFreed = NONE;
        for (int kind = 0; kind < town.kindCount; kind++) {
            int freed = freedByStriking(kind);
            if (freed > mostFreed) {
                mostFreed = freed;
                best = kind;
            }
        }
        tellOne(mostFreed);
        return best;
    }

    // ---- money

    public int pays(int x, int y, int v) {
        if (x < 1 || x > COIN_TOP || y < 1 || y > COIN_TOP || v < 1 || v > SUM_TOP) {
            return NONE;
        }
        int sums = purse.payable(x, y, v);
        tellOne(purse.leastMissing(v));
        return sums;
    }

    public int coins(int v) {
        if (v < 1 || v > SUM_TOP) {
            return NONE;
        }
        int best = NONE;
        for (int lesser = 1; lesser < DRAWN_COIN_TOP; lesser++) {
            for (int greater = lesser + 1; greater <= DRAWN_COIN_TOP; greater++) {
                int sums = purse.payable(lesser, greater, v);
                if (sums > best) {
                    best = sums;
                    tellTwo(lesser, greater);
                }
            }
            // No pair pays more: so no later one can be better.
            if (best >= Math.min(v, Purse.SUMS)) {
                break;
            }
        }
        return best;
    }

    // ---- of what there were three

    public int had(int house, int n) {
        if (!town.hasHouse(house) || n < 0 || n > THING_ROOM) {
            return NONE;
        }
        int kept = town.keptBy(house);
        int sets = 0;
        int best = NONE;
        int single = 0;
        for (int traits = 0; traits < TRAIT_SETS; traits++) {
            if (Integer.bitCount(town.havingAll(traits) & kept) == n) {
                sets++;
                best = fewerTraits(best, traits);
                single += Integer.bitCount(traits) == 1 ? 1 : 0;
            }
        }
        tellTwo(best, single);
        return sets;
    }

    public int heard(int thing, int is) {
        if (!town.hasThing(thing) || is < 0 || is > 1 || heardCount >= HEARD_ROOM) {
            return NONE;
        }
        heardThings[heardCount] = thing;
        heardAnswers[heardCount] = is;
        heardCount++;
        return heardCount;
    }

    public int forget() {
        int before = heardCount;
        heardCount = 0;
        return before;
    }

    public int whose() {
        int fitting = fittingHouses();
        tellOne(Integer.bitCount(fitting));
        return fitting;
    }

    public int ask() {
        int fitting = fittingHouses();
        if (fitting == 0 || town.thingCount == 0) {
            return -2;
        }
        int all = Integer.bitCount(fitting);
        int best = 0;
        int fewest = HOUSE_ROOM + 1;
        for (int thing = 0; thing < town.thingCount; thing++) {
            int keeping = Integer.bitCount(fitting & town.keepersOf(1 << thing));
            int left = Math.max(keeping, all - keeping);
            if (left < fewest) {
                fewest = left;
                best = thing;
            }
        }
        tellOne(fewest);
        return best;
    }

    // ---- what is seen, claims at rest

    public int seen(int thing, int kind, int p) {
        if (!town.hasThing(thing) || !town.hasKind(kind) || p < 0 || p > 10) {
            return NONE;
        }
        int upper = likely(thing, kind, p);
        int lower = power(10, town.namedBy(kind));
        int common = commonDivisor(upper, lower);
        tellTwo(upper / common, lower / common);
        return 0;
    }

    public int finds(int house, int kind, int p) {
        if (!town.hasHouse(house) || !town.hasKind(kind) || p < 0 || p > 10) {
            return NONE;
        }
        int kept = town.keptBy(house);
        int scale = Math.max(1, power(10, town.namedBy(kind)));
        startChances();
        for (int thing = 0; thing < town.thingCount; thing++) {
            if (((kept >> thing) & 1) != 0) {
                long perMille = 1000L * likely(thing, kind, p) / scale;
                shiftChances(perMille);
            }
        }
        long sum = 0;
        for (int j = town.limit + 1; j <= THING_ROOM; j++) {
            sum += chances[j];
        }
        return (int) sum;
    }

    public int rests(int v, int c) {
        if (v < 0 || v > SUM_TOP || c < 0 || c > AHEAD_TOP) {
            return NONE;
        }
        tellNothing();
        int pairs = 0;
        for (int one = 0; one <= AHEAD_TOP; one++) {
            for (int other = 0; other <= AHEAD_TOP; other++) {
                if (stays(one, other, v, c) && stays(other, one, v, c)) {
                    if (pairs == 0) {
                        tellTwo(one, other);
                    }
                    pairs++;
                }
            }
        }
        return pairs;
    }

    public int years(int seed, int n) {
        if (town.thingCount == 0) {
            return -2;
        }
        if (n < 1 || n > HOURS_TOP) {
            return NONE;
        }
        spare.copy(town.now);
        int random = seed;
        int given = 0;
        int taken = 0;
        for (int i = 0; i < n; i++) {
            random = nextRandom(random);
            int thing = drawn(random, town.thingCount);
            random = nextRandom(random);
            int house = drawn(random, town.houseCount);
            if (town.now.owner[thing] != NONE) {
                town.hand(thing, house);
                given++;
            }
            taken |= town.passHour();
        }
        int breaking = Integer.bitCount(town.breakers());
        town.now.copy(spare);
        tellTwo(given, breaking);
        return Integer.bitCount(taken);
    }

    // ---- kept

    public boolean keep(int i) {
        if (i < 0 || i >= SHELF_ROOM) {
            return false;
        }
        shelf[i].copy(town.now);
        shelved[i] = true;
        return true;
    }

    public boolean again(int i) {
        if (i < 0 || i >= SHELF_ROOM || !shelved[i]) {
            return false;
        }
        town.now.copy(shelf[i]);
        town.sortThings();
        past.size = 0;
        return true;
    }

    public int count(int what) {
        switch (what) {
            case 0:
                return town.houseCount;
            case 1:
                return town.thingCount;
            case 2:
                return town.kindCount;
            case 3:
                return town.limit;
            case 4:
                return town.now.hour;
            case 5:
                return town.nobodys();
            case 6:
                return town.lentOnes();
            case 7:
                return town.breakers();
            case 8:
                return heardCount;
            case 9:
                return past.size;
            case 10:
                return rowSize;
            case 11:
                return text.length;
            default:
                return NONE;
        }
    }

    public long row(int i) throws NoSuchElementException {
        if (i < 0 || i >= rowSize) {
            throw new NoSuchElementException();
        }
        return rowNumbers[i];
    }

    // ---- helpers of the calls

    /** States from ahead of such a call fit no more: other THINGS, KINDS or HOUSES are there. */
    private void forgetStates() {
        past.size = 0;
        for (int i = 0; i < SHELF_ROOM; i++) {
            shelved[i] = false;
        }
    }

    private void tellNothing() {
        rowSize = 0;
    }

    private void tellBesides(long number) {
        if (rowSize < ROW_ROOM) {
            rowNumbers[rowSize] = number;
            rowSize++;
        }
    }

    private void tellOne(long number) {
        tellNothing();
        tellBesides(number);
    }

    private void tellTwo(long number, long next) {
        tellNothing();
        tellBesides(number);
        tellBesides(next);
    }

    private static int sheetEntry(int kind, int number) {
        int entry = number;
        if (kind == SHEET_BYTES) {
            entry = (byte) number;
        } else if (kind == SHEET_SHORTS) {
            entry = (short) number;
        }
        return Math.max(0, Math.min(COINS_TOP, entry));
    }

    private int doneAlone(int act, int thing, int other) {
        past.mark(town.now);
        int answer = acted(act, thing, other);
        if (answer >= 0) {
            past.hold();
        }
        return answer;
    }

    /** One ACT by its sign; of an h the HOURS stand where others have the THING. */
    private int acted(int act, int thing, int other) {
        switch (act) {
            case 'b':
                return bought(thing, other);
            case 'g':
                return town.given(thing, other);
            case 'l':
                return town.lent(thing, other);
            case 'c':
                return town.claimed(thing, other);
            case 'p':
                return town.painted(thing, other);
            case 'h':
                return town.passHours(thing);
            default:
                return NONE;
        }
    }

    private int bought(int thing, int house) {
        if (!town.hasThing(thing) || !town.hasHouse(house)) {
            return NONE;
        }
        if (town.now.owner[thing] != NONE) {
            return -2;
        }
        int left = town.now.coins[house] - rule.value(town, thing, house);
        if (left < 0) {
            return -3;
        }
        if (!town.fits(town.loadOf(town.keptBy(house)), thing)) {
            return -4;
        }
        town.now.coins[house] = left;
        town.hand(thing, house);
        return left;
    }

    private int worthOfAll(int those, int house) {
        int sum = 0;
        for (int thing = 0; thing < town.thingCount; thing++) {
            if (((those >> thing) & 1) != 0) {
                sum += rule.value(town, thing, house);
            }
        }
        return sum;
    }

    private int fewestToGiveAway(int kept) {
        // Only THINGS of broken KINDS can be among the fewest.
        int pool = 0;
        int brokenKinds = town.brokenIn(kept);
        for (int kind = 0; kind < town.kindCount; kind++) {
            if (((brokenKinds >> kind) & 1) != 0) {
                pool |= kept & town.ofKind[kind];
            }
        }
        // The greatest set that stays leaves the least one to be given away.
        return pool & ~choosing.greatestOfMost(town.loadOf(kept & ~pool), pool);
    }

    private int breakingIfNarrowed(int kind, int trait) {
        int before = town.ofKind[kind];
        town.ofKind[kind] = before & town.havingAll(1 << trait);
        int breaking = Integer.bitCount(town.breakers());
        town.ofKind[kind] = before;
        return breaking;
    }

    private int freedByStriking(int kind) {
        int freed = 0;
        for (int house = 0; house < town.houseCount; house++) {
            if (town.brokenIn(town.keptBy(house)) == 1 << kind) {
                freed++;
            }
        }
        return freed;
    }

    /** The set of fewer TRAITS; of as few the one that came first, which is the least. */
    private static int fewerTraits(int best, int traits) {
        return best == NONE || Integer.bitCount(traits) < Integer.bitCount(best) ? traits : best;
    }

    private int fittingHouses() {
        int fitting = (1 << town.houseCount) - 1;
        for (int i = 0; i < heardCount; i++) {
            int keepers = town.keepersOf(1 << heardThings[i]);
            fitting &= heardAnswers[i] == 1 ? keepers : ~keepers;
        }
        return fitting;
    }

    /** How likely a THING is taken to be of a KIND, times 10 for each TRAIT that the KIND names. */
    private int likely(int thing, int kind, int p) {
        int named = town.must[kind] | town.mustNot[kind];
        int fitting = Integer.bitCount(named & ~(town.now.traits[thing] ^ town.must[kind]));
        int others = Integer.bitCount(named) - fitting;
        return power(p, fitting) * power(10 - p, others);
    }

    private static int power(int base, int times) {
        int product = 1;
        for (int i = 0; i < times; i++) {
            product *= base;
        }
        return product;
    }

    /** At least 1, so that it may divide. */
    private static int commonDivisor(int one, int other) {
        int greater = one;
        int lesser = other;
        for (int i = 0; i < 64 && lesser != 0; i++) {
            int rest = greater % lesser;
            greater = lesser;
            lesser = rest;
        }
        return Math.max(1, greater);
    }

    private void startChances() {
        for (int j = 0; j <= THING_ROOM; j++) {
            chances[j] = 0;
        }
        chances[0] = MILLION;
    }

    private void shiftChances(long perMille) {
        for (int j = THING_ROOM; j > 0; j--) {
            chances[j] = (chances[j] * (1000 - perMille) + chances[j - 1] * perMille) / 1000;
        }
        chances[0] = chances[0] * (1000 - perMille) / 1000;
    }

    private static boolean stays(int own, int other, int v, int c) {
        int now = gain(own, other, v, c);
        for (int hours = 0; hours <= AHEAD_TOP; hours++) {
            if (gain(hours, other, v, c) > now) {
                return false;
            }
        }
        return true;
    }

    private static int gain(int own, int other, int v, int c) {
        int share = own > other ? v : 0;
        if (own == other) {
            share = v / 2;
        }
        return share - c * own;
    }

    private static int nextRandom(int random) {
        return random * 1103515245 + 12345;
    }

    private static int drawn(int random, int n) {
        return n < 1 ? 0 : (random >>> 16) % n;
    }

    /** What undo() and again() bring back. */
    private static final class State {
        final int[] owner = new int[THING_ROOM];
        final int[] keeper = new int[THING_ROOM];
        final int[] traits = new int[THING_ROOM];
        final int[] coins = new int[HOUSE_ROOM];
        int hour = 0;

        void copy(State from) {
            System.arraycopy(from.owner, 0, owner, 0, THING_ROOM);
            System.arraycopy(from.keeper, 0, keeper, 0, THING_ROOM);
            System.arraycopy(from.traits, 0, traits, 0, THING_ROOM);
            System.arraycopy(from.coins, 0, coins, 0, HOUSE_ROOM);
            hour = from.hour;
        }
    }

    /** HOUSES, THINGS and KINDS as they are now. */
    private static final class Town {
        final State now = new State();
        final int[] must = new int[KIND_ROOM];
        final int[] mustNot = new int[KIND_ROOM];
        // THINGS of each KIND, and what each THING adds to a load; sortThings() brings them up to date.
        final int[] ofKind = new int[KIND_ROOM];
        final int[] weights = new int[THING_ROOM];
        int houseCount = 0;
        int thingCount = 0;
        int kindCount = 0;
        int limit = 2;

        Town() {
            settle(2);
        }

        boolean hasHouse(int house) {
            return house >= 0 && house < houseCount;
        }

        boolean hasThing(int thing) {
            return thing >= 0 && thing < thingCount;
        }

        boolean hasKind(int kind) {
            return kind >= 0 && kind < kindCount;
        }

        boolean hasThings(int those) {
            return those >= 0 && those < 1 << thingCount;
        }

        boolean isLent(int thing) {
            return now.owner[thing] != now.keeper[thing];
        }

        boolean needsHousesFrom(int first) {
            for (int thing = 0; thing < thingCount; thing++) {
                if (now.owner[thing] >= first || now.keeper[thing] >= first) {
                    return true;
                }
            }
            return false;
        }

        void settle(int n) {
            for (int house = houseCount; house < n; house++) {
                now.coins[house] = FIRST_COINS;
            }
            houseCount = n;
        }

        void addThings(Telling telling, int lines) {
            for (int line = 0; line < lines && thingCount < THING_ROOM; line++) {
                now.traits[thingCount] = telling.first[line];
                now.owner[thingCount] = telling.second[line];
                now.keeper[thingCount] = telling.second[line];
                thingCount++;
            }
            sortThings();
        }

        void addKinds(Telling telling, int lines) {
            for (int line = 0; line < lines && kindCount < KIND_ROOM; line++) {
                must[kindCount] = telling.first[line];
                mustNot[kindCount] = telling.second[line];
                kindCount++;
            }
            sortThings();
        }

        /** To be called whenever TRAITS or KINDS have changed. */
        void sortThings() {
            for (int thing = 0; thing < thingCount; thing++) {
                weights[thing] = 0;
            }
            for (int kind = 0; kind < kindCount; kind++) {
                int named = must[kind] | mustNot[kind];
                int those = 0;
                for (int thing = 0; thing < thingCount; thing++) {
                    if ((now.traits[thing] & named) == must[kind]) {
                        those |= 1 << thing;
                        weights[thing] |= 1 << (COUNT_BITS * kind);
                    }
                }
                ofKind[kind] = those;
            }
        }

        int namedBy(int kind) {
            return Integer.bitCount(must[kind] | mustNot[kind]);
        }

        int kindsOf(int thing) {
            int kinds = 0;
            for (int kind = 0; kind < kindCount; kind++) {
                kinds |= ((ofKind[kind] >> thing) & 1) << kind;
            }
            return kinds;
        }

        int havingAll(int traits) {
            int those = 0;
            for (int thing = 0; thing < thingCount; thing++) {
                if ((now.traits[thing] & traits) == traits) {
                    those |= 1 << thing;
                }
            }
            return those;
        }

        int keptBy(int house) {
            int those = 0;
            for (int thing = 0; thing < thingCount; thing++) {
                if (now.keeper[thing] == house) {
                    those |= 1 << thing;
                }
            }
            return those;
        }

        int ownedBy(int house) {
            int those = 0;
            for (int thing = 0; thing < thingCount; thing++) {
                if (now.owner[thing] == house) {
                    those |= 1 << thing;
                }
            }
            return those;
        }

        int nobodys() {
            return ownedBy(NONE);
        }

        int lentOnes() {
            int those = 0;
            for (int thing = 0; thing < thingCount; thing++) {
                if (isLent(thing)) {
                    those |= 1 << thing;
                }
            }
            return those;
        }

        int keepersOf(int those) {
            int keepers = 0;
            for (int thing = 0; thing < thingCount; thing++) {
                if (((those >> thing) & 1) != 0 && now.keeper[thing] != NONE) {
                    keepers |= 1 << now.keeper[thing];
                }
            }
            return keepers;
        }

        /** KINDS that a HOUSE BREAKS which keeps these THINGS. */
        int brokenIn(int kept) {
            int kinds = 0;
            for (int kind = 0; kind < kindCount; kind++) {
                if (Integer.bitCount(kept & ofKind[kind]) > limit) {
                    kinds |= 1 << kind;
                }
            }
            return kinds;
        }

        int tooManyIn(int kept) {
            int sum = 0;
            for (int kind = 0; kind < kindCount; kind++) {
                sum += Math.max(0, Integer.bitCount(kept & ofKind[kind]) - limit);
            }
            return sum;
        }

        /** How full of each KIND a HOUSE is; one that it BREAKS counts as just full. */
        int loadOf(int kept) {
            int load = 0;
            for (int kind = 0; kind < kindCount; kind++) {
                int room = Math.max(0, limit - Integer.bitCount(kept & ofKind[kind]));
                load |= (COUNT_TOP - room) << (COUNT_BITS * kind);
            }
            return load;
        }

        /** Whether a HOUSE with this load can get a THING and BREAKS no KIND of it then. */
        boolean fits(int load, int thing) {
            return ((load + weights[thing]) & OVERFULL) == 0;
        }

        int breakers() {
            int those = 0;
            for (int house = 0; house < houseCount; house++) {
                if (brokenIn(keptBy(house)) != 0) {
                    those |= 1 << house;
                }
            }
            return those;
        }

        void hand(int thing, int house) {
            now.owner[thing] = house;
            now.keeper[thing] = house;
        }

        int given(int thing, int house) {
            if (!hasThing(thing) || !hasHouse(house)) {
                return NONE;
            }
            int before = now.owner[thing];
            if (before == NONE || isLent(thing)) {
                return -2;
            }
            if (before == house) {
                return -3;
            }
            hand(thing, house);
            return before;
        }

        int lent(int thing, int house) {
            if (!hasThing(thing) || !hasHouse(house)) {
                return NONE;
            }
            int before = now.keeper[thing];
            if (before == NONE) {
                return -2;
            }
            if (before == house) {
                return -3;
            }
            now.keeper[thing] = house;
            return before;
        }

        int claimed(int thing, int house) {
            if (!hasThing(thing) || !hasHouse(house)) {
                return NONE;
            }
            int before = now.owner[thing];
            if (before == NONE) {
                return -2;
            }
            if (before == house || now.keeper[thing] == house) {
                return -3;
            }
            if ((brokenIn(keptBy(now.keeper[thing])) & kindsOf(thing)) == 0) {
                return -4;
            }
            hand(thing, house);
            return before;
        }

        int painted(int thing, int trait) {
            if (!hasThing(thing) || trait < 0 || trait >= TRAIT_COUNT) {
                return NONE;
            }
            now.traits[thing] ^= 1 << trait;
            sortThings();
            return now.traits[thing];
        }

        /** The HOUSE to which the inspector comes next. */
        int visited() {
            return houseCount < 1 ? 0 : now.hour % houseCount;
        }

        int seizedFrom(int house) {
            int kept = keptBy(house);
            int seized = 0;
            for (int kind = 0; kind < kindCount; kind++) {
                int those = kept & ~seized & ofKind[kind];
                int tooMany = Integer.bitCount(those) - limit;
                for (int i = 0; i < tooMany; i++) {
                    int greatest = Integer.highestOneBit(those);
                    those &= ~greatest;
                    seized |= greatest;
                }
            }
            return seized;
        }

        int passHour() {
            int seized = seizedFrom(visited());
            for (int thing = 0; thing < thingCount; thing++) {
                if (((seized >> thing) & 1) != 0) {
                    hand(thing, NONE);
                }
            }
            now.hour++;
            return seized;
        }

        /** What is taken in n HOURS; NONE if there can't be so many. */
        int passHours(int n) {
            if (n < 0 || n > HOURS_TOP) {
                return NONE;
            }
            // When he has been in every HOUSE, none BREAKS anything: the other HOURS take nothing.
            int visits = Math.min(n, houseCount);
            int seized = 0;
            for (int i = 0; i < visits; i++) {
                seized |= passHour();
            }
            now.hour += n - visits;
            return seized;
        }
    }

    /** THE TEXT, and the place up to which it has been read. */
    private static final class Text {
        final int[] signs = new int[TEXT_SIGNS];
        int length = 0;
        private int at = 0;
        private int readable = 0;

        void append(int sign) {
            if (length < TEXT_SIGNS) {
                signs[length] = sign;
                length++;
            }
        }

        void open(int mostSigns) {
            at = 0;
            readable = Math.min(length, mostSigns);
        }

        /** The sign that is next, NONE behind the last that may be read. */
        int peek() {
            return at >= 0 && at < readable ? signs[at] : NONE;
        }

        void step() {
            at++;
        }

        /** Never true for a text of more signs than may be read: its next sign can't stand there. */
        boolean ended() {
            return at == length;
        }

        int fault() {
            return -1 - at;
        }

        boolean takes(int sign) {
            if (peek() != sign) {
                return false;
            }
            at++;
            return true;
        }

        /** Reads one of a few signs that follow one another: which, or NONE. */
        int oneOf(int firstSign, int howMany) {
            int which = peek() - firstSign;
            if (which < 0 || which >= howMany) {
                return NONE;
            }
            at++;
            return which;
        }

        /** Reads rising letters of TRAITS as far as they go, none of those that are barred. */
        int letters(int barred) {
            int traits = 0;
            for (int i = 0; i < TRAIT_COUNT; i++) {
                int trait = peek() - 'a';
                if (trait < 0 || trait >= TRAIT_COUNT || (traits >> trait) != 0 || ((barred >> trait) & 1) != 0) {
                    break;
                }
                traits |= 1 << trait;
                at++;
            }
            return traits;
        }

        /** Reads a number of at most so many digits; NONE without a digit. */
        int number(int mostDigits) {
            int digit = oneOf('0', 10);
            int number = digit;
            for (int i = 1; i < mostDigits && digit >= 0; i++) {
                digit = oneOf('0', 10);
                number = digit < 0 ? number : 10 * number + digit;
            }
            return number;
        }
    }

    /** Reads THE TEXT as THINGS, KINDS or A DAY; of each LINE up to three numbers are told. */
    private static final class Telling {
        private final Text text;
        final int[] first = new int[DAY_ACTS];
        final int[] second = new int[DAY_ACTS];
        final int[] third = new int[DAY_ACTS];

        Telling(Text text) {
            this.text = text;
        }

        int readThings(int room, int houseCount) {
            text.open(THINGS_SIGNS);
            for (int line = 0; line < room && line < DAY_ACTS; line++) {
                if (!readsThing(line, houseCount)) {
                    break;
                }
                if (!text.takes(';')) {
                    return text.ended() ? line + 1 : text.fault();
                }
            }
            return text.fault();
        }

        int readKinds(int room) {
            text.open(KINDS_SIGNS);
            for (int line = 0; line < room && line < DAY_ACTS; line++) {
                if (!readsKind(line)) {
                    break;
                }
                if (!text.takes(';')) {
                    return text.ended() ? line + 1 : text.fault();
                }
            }
            return text.fault();
        }

        int readDay() {
            text.open(DAY_SIGNS);
            for (int line = 0; line < DAY_ACTS; line++) {
                if (!readsAct(line)) {
                    break;
                }
                if (!text.takes(';')) {
                    return text.ended() ? line + 1 : text.fault();
                }
            }
            return text.fault();
        }

        private boolean readsThing(int line, int houseCount) {
            first[line] = text.letters(0);
            if (text.takes('-')) {
                second[line] = NONE;
                return true;
            }
            second[line] = text.oneOf('0', houseCount);
            return second[line] >= 0;
        }

        private boolean readsKind(int line) {
            first[line] = text.letters(0);
            second[line] = 0;
            if (first[line] == 0) {
                return false;
            }
            if (!text.takes('!')) {
                return true;
            }
            second[line] = text.letters(first[line]);
            return second[line] != 0;
        }

        private boolean readsAct(int line) {
            int act = text.peek();
            first[line] = act;
            third[line] = 0;
            if (act != 'b' && act != 'g' && act != 'l' && act != 'c' && act != 'p' && act != 'h') {
                return false;
            }
            text.step();
            if (act == 'h') {
                second[line] = text.number(2);
                return second[line] >= 0;
            }
            second[line] = text.oneOf('a', THING_ROOM);
            if (second[line] < 0) {
                return false;
            }
            third[line] = act == 'p' ? text.oneOf('a', TRAIT_COUNT) : text.oneOf('0', 10);
            return third[line] >= 0;
        }
    }

    /** THE RULE, turned round so that each operation stands behind what it is done with. */
    private static final class Rule {
        // A number as it is; ~sign of an operation or of a letter.
        private final int[] code = new int[RULE_SIGNS];
        private final int[] stack = new int[RULE_SIGNS];
        int size = 0;

        void copy(Rule from) {
            System.arraycopy(from.code, 0, code, 0, RULE_SIGNS);
            size = from.size;
        }

        void addNumber(int number) {
            addPart(number);
        }

        void addSign(int sign) {
            addPart(~sign);
        }

        private void addPart(int part) {
            if (size < RULE_SIGNS) {
                code[size] = part;
                size++;
            }
        }

        int value(Town town, int thing, int house) {
            int result;
            if (size == 0) {
                result = letter('t', town, thing, house) * 3 + letter('k', town, thing, house);
            } else {
                result = computed(town, thing, house);
            }
            return Math.max(0, Math.min(WORTH_TOP, result));
        }

        private int computed(Town town, int thing, int house) {
            int top = 0;
            for (int i = 0; i < size; i++) {
                int part = code[i];
                if (part < 0 && isOperation(~part)) {
                    if (top < 2) {
                        return 0;
                    }
                    top--;
                    stack[top - 1] = operated(~part, stack[top - 1], stack[top]);
                } else if (part == ~NEGATE) {
                    if (top < 1) {
                        return 0;
                    }
                    stack[top - 1] = -stack[top - 1];
                } else if (top < RULE_SIGNS) {
                    stack[top] = part >= 0 ? part : letter(~part, town, thing, house);
                    top++;
                }
            }
            return stack[0];
        }

        private static boolean isOperation(int sign) {
            switch (sign) {
                case '<':
                case '>':
                case '=':
                case '+':
                case '-':
                case '*':
                case '/':
                    return true;
                default:
                    return false;
            }
        }

        private static int operated(int sign, int one, int other) {
            switch (sign) {
                case '<':
                    return one < other ? 1 : 0;
                case '>':
                    return one > other ? 1 : 0;
                case '=':
                    return one == other ? 1 : 0;
                case '+':
                    return one + other;
                case '-':
                    return one - other;
                case '*':
                    return one * other;
                default:
                    return other == 0 ? 0 : one / other;
            }
        }

        private static int letter(int sign, Town town, int thing, int house) {
            switch (sign) {
                case 't':
                    return Integer.bitCount(town.now.traits[thing]);
                case 'k':
                    return Integer.bitCount(town.kindsOf(thing));
                case 'h':
                    return house;
                case 'n':
                    return Integer.bitCount(town.keptBy(house));
                case 'i':
                    return thing;
                default:
                    return town.now.owner[thing] == house ? 1 : 0;
            }
        }
    }

    /** Reads THE TEXT as a RULE. Each method says whether what it reads could be read. */
    private static final class RuleReader {
        private final Text text;
        final Rule draft = new Rule();

        RuleReader(Text text) {
            this.text = text;
        }

        int read() {
            text.open(RULE_SIGNS);
            draft.size = 0;
            return readsExpression(0) && text.ended() ? 0 : text.fault();
        }

        private boolean readsExpression(int depth) {
            if (!readsSum(depth)) {
                return false;
            }
            int sign = text.peek();
            if (sign != '<' && sign != '>' && sign != '=') {
                return true;
            }
            text.step();
            if (!readsSum(depth)) {
                return false;
            }
            draft.addSign(sign);
            return true;
        }

        private boolean readsSum(int depth) {
            boolean reads = readsProduct(depth);
            for (int i = 0; i < RULE_SIGNS && reads; i++) {
                int sign = text.peek();
                if (sign != '+' && sign != '-') {
                    break;
                }
                text.step();
                reads = readsProduct(depth);
                draft.addSign(sign);
            }
            return reads;
        }

        private boolean readsProduct(int depth) {
            boolean reads = readsSigned(depth);
            for (int i = 0; i < RULE_SIGNS && reads; i++) {
                int sign = text.peek();
                if (sign != '*' && sign != '/') {
                    break;
                }
                text.step();
                reads = readsSigned(depth);
                draft.addSign(sign);
            }
            return reads;
        }

        private boolean readsSigned(int depth) {
            boolean negated = false;
            for (int i = 0; i < RULE_SIGNS && text.takes('-'); i++) {
                negated = !negated;
            }
            if (!readsThing(depth)) {
                return false;
            }
            if (negated) {
                draft.addSign(NEGATE);
            }
            return true;
        }

        private boolean readsThing(int depth) {
            int number = text.number(3);
            if (number >= 0) {
                draft.addNumber(number);
                return true;
            }
            int sign = text.peek();
            if (sign == '(' && depth < BRACKETS) {
                text.step();
                return readsExpression(depth + 1) && text.takes(')');
            }
            if (sign != 't' && sign != 'k' && sign != 'h' && sign != 'n' && sign != 'i' && sign != 'o') {
                return false;
            }
            text.step();
            draft.addSign(sign);
            return true;
        }
    }

    /** The latest states that undo() can bring back, in a ring. */
    private static final class Past {
        // One more than are kept: the state ahead of an act stands there before it is known to be done.
        private static final int RING = UNDO_ROOM + 1;
        private final State[] states = new State[RING];
        private int oldest = 0;
        int size = 0;

        Past() {
            for (int i = 0; i < RING; i++) {
                states[i] = new State();
            }
        }

        void mark(State now) {
            states[place(size)].copy(now);
        }

        void hold() {
            if (size < UNDO_ROOM) {
                size++;
            } else {
                oldest = place(1);
            }
        }

        void stepBack(State now) {
            if (size > 0) {
                size--;
                now.copy(states[place(size)]);
            }
        }

        private int place(int i) {
            return (oldest + i) % RING;
        }
    }

    /** Looks for the most THINGS of a pool that a HOUSE with some load can get and BREAKS no KIND of them. */
    private static final class Choosing {
        private final Town town;
        private boolean greatestFirst = false;
        private int best = 0;
        private int bestCount = 0;

        Choosing(Town town) {
            this.town = town;
        }

        int leastOfMost(int load, int pool) {
            greatestFirst = false;
            bestCount = NONE;
            look(pool, load, 0);
            return best;
        }

        int greatestOfMost(int load, int pool) {
            greatestFirst = true;
            bestCount = NONE;
            look(pool, load, 0);
            return best;
        }

        /** Sets are met by rising numbers, or by falling ones: the first of as many stays the best. */
        private void look(int rest, int load, int taken) {
            int atMost = Integer.bitCount(taken | rest);
            if (atMost <= bestCount) {
                return;
            }
            if (rest == 0) {
                best = taken;
                bestCount = atMost;
                return;
            }
            int bit = Integer.highestOneBit(rest);
            int thing = Integer.numberOfTrailingZeros(bit);
            int others = rest & ~bit;
            if (!greatestFirst) {
                look(others, load, taken);
            }
            if (thing < THING_ROOM && town.fits(load, thing)) {
                look(others, load + town.weights[thing], taken | bit);
            }
            if (greatestFirst) {
                look(others, load, taken);
            }
        }
    }

    /** Looks for HOUSES where told THINGS can be kept. */
    private static final class Storing {
        private final Town town;
        private final int[] those = new int[STORE_ROOM];
        private final int[] loads = new int[HOUSE_ROOM];
        final int[] places = new int[STORE_ROOM];
        int count = 0;

        Storing(Town town) {
            this.town = town;
        }

        /** How many moves, places telling where to; -2 if it can't be. */
        int fewestMoves(int set) {
            list(set);
            for (int house = 0; house < town.houseCount; house++) {
                int others = town.keptBy(house) & ~set;
                if (town.brokenIn(others) != 0) {
                    return -2;
                }
                loads[house] = town.loadOf(others);
            }
            for (int moves = 0; moves <= count; moves++) {
                if (placesFrom(0, moves)) {
                    return moves;
                }
            }
            return -2;
        }

        private void list(int set) {
            count = 0;
            for (int thing = 0; thing < town.thingCount && count < STORE_ROOM; thing++) {
                if (((set >> thing) & 1) != 0) {
                    those[count] = thing;
                    count++;
                }
            }
        }

        /** Tries HOUSES from the first on, so that the first places found are the least row. */
        private boolean placesFrom(int i, int movesLeft) {
            if (i >= count) {
                return true;
            }
            int thing = those[i];
            for (int house = 0; house < town.houseCount; house++) {
                int left = town.now.keeper[thing] == house ? movesLeft : movesLeft - 1;
                if (left >= 0 && town.fits(loads[house], thing)) {
                    places[i] = house;
                    loads[house] += town.weights[thing];
                    if (placesFrom(i + 1, left)) {
                        return true;
                    }
                    loads[house] -= town.weights[thing];
                }
            }
            return false;
        }
    }

    /** Looks for the dealing of nobody's THINGS that is worth the most. */
    private static final class Dealing {
        private final Town town;
        private final Rule rule;
        // WORTH of a THING to a HOUSE, NONE if it may not get it.
        private final int[][] gains = new int[HOUSE_ROOM][THING_ROOM];
        // By sets of HOUSES: the most that these can get.
        private final int[] best = new int[1 << HOUSE_ROOM];
        final int[] dealt = new int[HOUSE_ROOM];

        Dealing(Town town, Rule rule) {
            this.town = town;
            this.rule = rule;
        }

        /** How much, dealt telling what each HOUSE gets. */
        int mostWorth() {
            int free = town.nobodys();
            for (int house = 0; house < town.houseCount; house++) {
                fillGains(house, free);
            }
            int sum = bestFrom(0, free);
            int left = sum;
            for (int house = 0; house < town.houseCount; house++) {
                int thing = leastChoice(house, free, left);
                dealt[house] = thing;
                if (thing >= 0) {
                    left -= gains[house][thing];
                    free &= ~(1 << thing);
                }
            }
            return sum;
        }

        private void fillGains(int house, int free) {
            int load = town.loadOf(town.keptBy(house));
            for (int thing = 0; thing < town.thingCount; thing++) {
                boolean allowed = ((free >> thing) & 1) != 0 && town.fits(load, thing);
                gains[house][thing] = allowed ? rule.value(town, thing, house) : NONE;
            }
        }

        /** The least that a HOUSE can get so that it and those behind it still get all that is left. */
        private int leastChoice(int house, int free, int left) {
            if (bestFrom(house + 1, free) == left) {
                return NONE;
            }
            for (int thing = 0; thing < town.thingCount; thing++) {
                int bit = 1 << thing;
                int gain = gains[house][thing];
                if ((free & bit) != 0 && gain >= 0 && gain + bestFrom(house + 1, free & ~bit) == left) {
                    return thing;
                }
            }
            return NONE;
        }

        /** The most that the HOUSES from one on can get of free THINGS. */
        private int bestFrom(int first, int free) {
            int sets = 1 << Math.max(0, town.houseCount - first);
            for (int set = 0; set < sets; set++) {
                best[set] = 0;
            }
            for (int thing = 0; thing < town.thingCount; thing++) {
                if (((free >> thing) & 1) != 0) {
                    addThing(thing, first, sets);
                }
            }
            return best[sets - 1];
        }

        private void addThing(int thing, int first, int sets) {
            // From the greatest set on, so that lesser ones are still without this THING.
            for (int set = sets - 1; set > 0; set--) {
                for (int house = first; house < town.houseCount; house++) {
                    int bit = 1 << (house - first);
                    int gain = gains[house][thing];
                    if ((set & bit) != 0 && gain >= 0) {
                        best[set] = Math.max(best[set], best[set & ~bit] + gain);
                    }
                }
            }
        }
    }

    /** Sums that can be paid with two coins, two of each at most there and back. */
    private static final class Purse {
        // How many unlike sums above 0 there can be at most.
        static final int SUMS = 12;
        // Bits of the sums below 64, and of those from 64 on.
        private long low = 0;
        private long high = 0;

        int payable(int x, int y, int v) {
            low = 0;
            high = 0;
            for (int ofX = 0; ofX <= 2; ofX++) {
                for (int ofY = -2; ofY <= 2; ofY++) {
                    mark(Math.abs(ofX * x + ofY * y), v);
                }
            }
            return Long.bitCount(low) + Long.bitCount(high);
        }

        int leastMissing(int v) {
            int sum = 1;
            while (sum <= v && isMarked(sum)) {
                sum++;
            }
            return sum;
        }

        private void mark(int sum, int v) {
            if (sum < 1 || sum > v) {
                return;
            }
            if (sum < 64) {
                low |= 1L << sum;
            } else {
                high |= 1L << (sum - 64);
            }
        }

        private boolean isMarked(int sum) {
            long bits = sum < 64 ? low >> sum : high >> (sum - 64);
            return (bits & 1) != 0;
        }
    }
}
