/**
 * A watch on ways that are said on: houses with ties, blocks of addresses with rights, who says
 * to be the way to a block, who takes it from whom, and where addresses go then.
 */
public final class RouteWatch {
    public static final int NONE = -1, BAD = -2, TWICE = -3, RING = -4, NOT = -5, FULL = -6, LOST = -7, ROUND = -8;

    private static final int MOST_HOUSES = 10, MOST_RIGHTS = 12, MOST_SAYINGS = 16, MOST_ROUNDS = 50;
    private static final int MOST_SETS = 1 << MOST_HOUSES;
    private static final int ADDRESSES = 64, LONGEST = 6;

    // Blocks are numbered as a tree: 1 has all addresses, and the halves of n are 2n and 2n + 1.
    // So n >> 1 is the next wider block, and 64 + a is the block of the address a alone.
    private static final int BLOCKS = 2 * ADDRESSES;

    // What one house is to another, the dearest first: a lower number is taken rather.
    private static final int STRANGER = 0, CUSTOMER = 1, PEER = 2, PROVIDER = 3;

    private static final int LEAKS = 0, REFUSES = 1;

    private final Houses houses;
    private final Rights rights;
    private final Sayings sayings;
    private final Settling settling;
    private final Goings goings;
    private final int[] seers;

    public RouteWatch() {
        houses = new Houses();
        rights = new Rights();
        sayings = new Sayings();
        settling = new Settling(houses, rights, sayings);
        goings = new Goings(houses, rights, sayings, settling);
        seers = new int[MOST_SAYINGS];
    }

    public int house() {
        return houses.build();
    }

    public int tie(int p, int c, boolean peer) {
        if (!houses.has(p) || !houses.has(c)) {
            return BAD;
        }
        if (p == c || houses.kind(p, c) != STRANGER) {
            return TWICE;
        }
        if (!peer && houses.isAbove(c, p)) {
            return RING;
        }
        if (peer) {
            houses.bind(p, c, PEER, PEER);
        } else {
            houses.bind(p, c, CUSTOMER, PROVIDER);
        }
        return 1;
    }

    public int untie(int a, int b) {
        if (!houses.has(a) || !houses.has(b)) {
            return BAD;
        }
        if (houses.kind(a, b) == STRANGER) {
            return NOT;
        }
        houses.part(a, b);
        return 1;
    }

    public int right(int length, int first, int house) {
        int block = blockNumber(length, first);
        if (block == BAD || !houses.has(house)) {
            return BAD;
        }
        int holder = rights.holder(block);
        if (holder == house) {
            return TWICE;
        }
        if (holder == NONE && rights.number() >= MOST_RIGHTS) {
            return FULL;
        }
        rights.give(block, house);
        return holder;
    }

    public int free(int length, int first) {
        int block = blockNumber(length, first);
        if (block == BAD) {
            return BAD;
        }
        int holder = rights.holder(block);
        if (holder == NONE) {
            return NOT;
        }
        rights.give(block, NONE);
        return holder;
    }

    public int rightful(int length, int first) {
        int block = blockNumber(length, first);
        return block == BAD ? BAD : rights.owner(block);
    }

    public int say(int length, int first, int house) {
        int block = blockNumber(length, first);
        if (block == BAD || !houses.has(house)) {
            return BAD;
        }
        if (hasBit(sayings.sayers(block), house)) {
            return TWICE;
        }
        return sayings.add(block, house);
    }

    public int unsay(int saying) {
        if (!sayings.has(saying)) {
            return BAD;
        }
        sayings.drop(saying);
        return 1;
    }

    public int set(int way, int house, boolean on) {
        if ((way != LEAKS && way != REFUSES) || !houses.has(house)) {
            return BAD;
        }
        return way == LEAKS ? houses.turnLeak(house, on) : houses.turnRefusal(house, on);
    }

    public int rounds(int length, int first) {
        int block = blockNumber(length, first);
        int refused = refusal(block);
        if (refused != 0) {
            return refused;
        }
        settling.settle(block, houses.refusing());
        return settling.changing();
    }

    public int restless(int length, int first) {
        int changing = rounds(length, first);
        if (changing < 0) {
            return changing;
        }
        return changing == MOST_ROUNDS ? 1 : 0;
    }

    public int way(int length, int first, int house, int i) {
        int block = blockNumber(length, first);
        if (!houses.has(house) || i < 0) {
            return BAD;
        }
        int refused = refusal(block);
        if (refused != 0) {
            return refused;
        }
        settling.settle(block, houses.refusing());
        return settling.ways().at(house, i);
    }

    public int broken(int length, int first, int house) {
        int block = blockNumber(length, first);
        if (!houses.has(house)) {
            return BAD;
        }
        int refused = refusal(block);
        if (refused != 0) {
            return refused;
        }
        settling.settle(block, houses.refusing());
        return settling.breaker(house);
    }

    public int goes(int house, int address) {
        if (!houses.has(house) || !isAddress(address)) {
            return BAD;
        }
        goings.look(address, houses.refusing());
        return goings.end(house);
    }

    public int misled(int address) {
        return isAddress(address) ? goings.astray(address, houses.refusing()) : BAD;
    }

    public int saying(int k, int what) {
        if (!sayings.has(k)) {
            return BAD;
        }
        int block = sayings.block(k);
        switch (what) {
            case 0:
                return lengthOf(block);
            case 1:
                return firstOf(block);
            case 2:
                return sayings.sayer(k);
            case 3:
                return isFalse(k) ? 1 : 0;
            case 4:
                return isFalse(k) && rights.holder(block) == NONE ? 1 : 0;
            case 5:
                return seersOf(k);
            default:
                return BAD;
        }
    }

    public int watchers() {
        int number = noteSeersOfFalse();
        int set = 0;
        for (int tries = 0; tries < MOST_SETS && set != NONE; tries++) {
            if (meetsAll(set, number)) {
                return set;
            }
            set = nextSet(set);
        }
        return NONE;
    }

    public int cure(int address) {
        if (!isAddress(address)) {
            return BAD;
        }
        int excused = goings.allSayers(address);
        int helpers = goings.helpers(address);
        int set = 0;
        for (int tries = 0; tries < MOST_SETS && set != NONE; tries++) {
            // A house whose refusal alters nothing only makes a set larger, so it is in no fewest one.
            boolean mayBeFewest = (set & ~helpers) == 0;
            if (mayBeFewest && (goings.astray(address, houses.refusing() | set) & ~excused) == 0) {
                return set;
            }
            set = nextSet(set);
        }
        return NONE;
    }

    public int halves(int saying) {
        if (!sayings.has(saying)) {
            return BAD;
        }
        int block = sayings.block(saying);
        if (!isFalse(saying) || block >= ADDRESSES) {
            return NOT;
        }
        // The other half does not have the first address, so what is said of it alters nothing here.
        int half = 2 * block;
        int before = sayings.sayers(half);
        sayings.suppose(half, before | bit(rights.owner(block)));
        int astray = goings.astray(firstOf(block), houses.refusing());
        sayings.suppose(half, before);
        return Integer.bitCount(astray);
    }

    public int count(int what) {
        switch (what) {
            case 0:
                return houses.number();
            case 1:
                return houses.ties();
            case 2:
                return rights.number();
            case 3:
                return sayings.number();
            case 4:
                return falseSayings();
            default:
                return BAD;
        }
    }

    private static int blockNumber(int length, int first) {
        if (length < 0 || length > LONGEST || !isAddress(first)) {
            return BAD;
        }
        int size = ADDRESSES >> length;
        return (first & (size - 1)) == 0 ? (ADDRESSES + first) >> (LONGEST - length) : BAD;
    }

    private static int lengthOf(int block) {
        int length = 0;
        while (length < LONGEST && (block >> length) > 1) {
            length++;
        }
        return length;
    }

    private static int firstOf(int block) {
        return (block << (LONGEST - lengthOf(block))) - ADDRESSES;
    }

    private static boolean isAddress(int address) {
        return address >= 0 && address < ADDRESSES;
    }

    private static boolean isBlock(int block) {
        return block >= 1 && block < BLOCKS;
    }

    private static int bit(int house) {
        return house >= 0 && house < MOST_HOUSES ? 1 << house : 0;
    }

    private static boolean hasBit(int set, int house) {
        return house >= 0 && house < MOST_HOUSES && ((set >> house) & 1) == 1;
    }

    private int refusal(int block) {
        if (block == BAD) {
            return BAD;
        }
        return sayings.sayers(block) == 0 ? NOT : 0;
    }

    private boolean isFalse(int k) {
        int owner = rights.owner(sayings.block(k));
        return owner != NONE && owner != sayings.sayer(k);
    }

    private int falseSayings() {
        int number = 0;
        for (int k = 0; k < sayings.number(); k++) {
            if (isFalse(k)) {
                number++;
            }
        }
        return number;
    }

    private int seersOf(int k) {
        int sayer = sayings.sayer(k);
        settling.settle(sayings.block(k), houses.refusing());
        int seen = 0;
        for (int h = 0; h < houses.number(); h++) {
            if (h != sayer && settling.ways().last(h) == sayer) {
                seen |= bit(h);
            }
        }
        return seen;
    }

    private int noteSeersOfFalse() {
        int number = 0;
        for (int k = 0; k < sayings.number() && number < seers.length; k++) {
            int seen = isFalse(k) ? seersOf(k) : 0;
            if (seen != 0) {
                seers[number] = seen;
                number++;
            }
        }
        return number;
    }

    private boolean meetsAll(int set, int number) {
        for (int i = 0; i < number && i < seers.length; i++) {
            if ((seers[i] & set) == 0) {
                return false;
            }
        }
        return true;
    }

    /** The set of houses behind this one: by how many they are, then by number; NONE behind the last. */
    private int nextSet(int set) {
        int size = Integer.bitCount(set);
        int limit = 1 << houses.number();
        for (int next = set + 1; next < limit; next++) {
            if (Integer.bitCount(next) == size) {
                return next;
            }
        }
        return size < houses.number() ? (2 << size) - 1 : NONE;
    }

    /** The houses: what each is to each, which leak, which refuse. */
    private static final class Houses {
        private int number;
        private int ties;
        private int leaking;
        private int refusing;
        private final int[][] kinds = new int[MOST_HOUSES][MOST_HOUSES];

        int number() {
            return number;
        }

        int ties() {
            return ties;
        }

        int leaking() {
            return leaking;
        }

        int refusing() {
            return refusing;
        }

        boolean has(int house) {
            return house >= 0 && house < number;
        }

        int build() {
            if (number >= MOST_HOUSES) {
                return FULL;
            }
            number++;
            return number - 1;
        }

        /** What the other is to the house. */
        int kind(int house, int other) {
            boolean known = house >= 0 && house < number && other >= 0 && other < number;
            return known ? kinds[house][other] : STRANGER;
        }

        private void put(int house, int other, int kind) {
            if (has(house) && has(other)) {
                kinds[house][other] = kind;
            }
        }

        void bind(int house, int other, int kindOfOther, int kindOfHouse) {
            put(house, other, kindOfOther);
            put(other, house, kindOfHouse);
            ties++;
        }

        void part(int house, int other) {
            put(house, other, STRANGER);
            put(other, house, STRANGER);
            ties--;
        }

        /** Whether one is a provider of the other, or of its providers, and so on. */
        boolean isAbove(int one, int other) {
            int reached = bit(other);
            // No chain of providers has more steps than there are houses.
            for (int step = 0; step < number; step++) {
                reached |= providersOf(reached);
            }
            return hasBit(reached, one);
        }

        private int providersOf(int set) {
            int providers = 0;
            for (int h = 0; h < number; h++) {
                for (int t = 0; t < number && hasBit(set, h); t++) {
                    if (kind(h, t) == PROVIDER) {
                        providers |= bit(t);
                    }
                }
            }
            return providers;
        }

        int turnLeak(int house, boolean on) {
            int was = hasBit(leaking, house) ? 1 : 0;
            leaking = on ? leaking | bit(house) : leaking & ~bit(house);
            return was;
        }

        int turnRefusal(int house, boolean on) {
            int was = hasBit(refusing, house) ? 1 : 0;
            refusing = on ? refusing | bit(house) : refusing & ~bit(house);
            return was;
        }
    }

    /** Who has the right to which block. */
    private static final class Rights {
        private int number;
        private final int[] holders;

        Rights() {
            holders = new int[BLOCKS];
            for (int block = 0; block < BLOCKS; block++) {
                holders[block] = NONE;
            }
        }

        int number() {
            return number;
        }

        /** The house that has the right to just this block. */
        int holder(int block) {
            return isBlock(block) ? holders[block] : NONE;
        }

        void give(int block, int house) {
            if (!isBlock(block)) {
                return;
            }
            number += (house == NONE ? 0 : 1) - (holders[block] == NONE ? 0 : 1);
            holders[block] = house;
        }

        /** The house that is rightful for a block. */
        int owner(int block) {
            for (int wider = block; wider >= 1; wider >>= 1) {
                int house = holder(wider);
                if (house != NONE) {
                    return house;
                }
            }
            return NONE;
        }
    }

    /** Who says which block, in the order of the sayings' numbers. */
    private static final class Sayings {
        private int number;
        private final int[] blocks = new int[MOST_SAYINGS];
        private final int[] houses = new int[MOST_SAYINGS];
        private final int[] sayers = new int[BLOCKS];

        int number() {
            return number;
        }

        boolean has(int k) {
            return k >= 0 && k < number && k < MOST_SAYINGS;
        }

        int block(int k) {
            return has(k) ? blocks[k] : NONE;
        }

        int sayer(int k) {
            return has(k) ? houses[k] : NONE;
        }

        /** The houses that say a block, by bits. */
        int sayers(int block) {
            return isBlock(block) ? sayers[block] : 0;
        }

        /** Takes these houses for those that say a block; the numbered sayings stay as they are. */
        void suppose(int block, int set) {
            if (isBlock(block)) {
                sayers[block] = set;
            }
        }

        int add(int block, int house) {
            if (number >= MOST_SAYINGS) {
                return FULL;
            }
            blocks[number] = block;
            houses[number] = house;
            suppose(block, sayers(block) | bit(house));
            number++;
            return number - 1;
        }

        void drop(int k) {
            if (!has(k)) {
                return;
            }
            suppose(blocks[k], sayers(blocks[k]) & ~bit(houses[k]));
            for (int i = k + 1; i < number && i < MOST_SAYINGS; i++) {
                blocks[i - 1] = blocks[i];
                houses[i - 1] = houses[i];
            }
            number--;
        }
    }

    /** The way of each house to one block. A row has four bits for each house on it, its own lowest. */
    private static final class Ways {
        private final long[] rows = new long[MOST_HOUSES];
        private final int[] lengths = new int[MOST_HOUSES];
        private final int[] lasts = new int[MOST_HOUSES];
        // The houses on each way, by bits.
        private final int[] members = new int[MOST_HOUSES];

        void begin(int sayers) {
            for (int h = 0; h < MOST_HOUSES; h++) {
                boolean says = hasBit(sayers, h);
                rows[h] = says ? h : 0;
                lengths[h] = says ? 1 : 0;
                lasts[h] = says ? h : NONE;
                members[h] = says ? bit(h) : 0;
            }
        }

        void copy(Ways other) {
            System.arraycopy(other.rows, 0, rows, 0, MOST_HOUSES);
            System.arraycopy(other.lengths, 0, lengths, 0, MOST_HOUSES);
            System.arraycopy(other.lasts, 0, lasts, 0, MOST_HOUSES);
            System.arraycopy(other.members, 0, members, 0, MOST_HOUSES);
        }

        int length(int house) {
            return house >= 0 && house < lengths.length ? lengths[house] : 0;
        }

        int at(int house, int i) {
            if (house < 0 || house >= MOST_HOUSES || i < 0 || i >= lengths[house]) {
                return NONE;
            }
            return (int) (rows[house] >> (4 * i)) & 15;
        }

        /** The house where the way ends. */
        int last(int house) {
            return house >= 0 && house < lasts.length ? lasts[house] : NONE;
        }

        boolean isOn(int house, int other) {
            return house >= 0 && house < members.length && ((members[house] >> other) & 1) == 1;
        }

        /** Gives the house the way that next has in another table, itself ahead; whether that is a change. */
        boolean follow(int house, Ways other, int next) {
            if (house < 0 || house >= MOST_HOUSES) {
                return false;
            }
            boolean some = next >= 0 && next < MOST_HOUSES;
            long row = some ? (other.rows[next] << 4) | house : 0;
            int length = some ? other.lengths[next] + 1 : 0;
            boolean changed = row != rows[house] || length != lengths[house];
            rows[house] = row;
            lengths[house] = length;
            lasts[house] = some ? other.lasts[next] : NONE;
            members[house] = some ? other.members[next] | bit(house) : 0;
            return changed;
        }
    }

    /** Goes through the rounds of one block, and holds the ways behind them. */
    private static final class Settling {
        private final Houses houses;
        private final Rights rights;
        private final Sayings sayings;
        private final Ways now = new Ways();
        private final Ways before = new Ways();
        private int changing;

        Settling(Houses houses, Rights rights, Sayings sayings) {
            this.houses = houses;
            this.rights = rights;
            this.sayings = sayings;
        }

        Ways ways() {
            return now;
        }

        /** How many rounds changed something. */
        int changing() {
            return changing;
        }

        void settle(int block, int refusing) {
            int sayers = sayings.sayers(block);
            int owner = rights.owner(block);
            now.begin(sayers);
            changing = 0;
            boolean changed = true;
            for (int round = 1; round <= MOST_ROUNDS && changed; round++) {
                before.copy(now);
                changed = goRound(sayers, refusing, owner);
                if (changed) {
                    changing = round;
                }
            }
        }

        private boolean goRound(int sayers, int refusing, int owner) {
            int open = openHouses(sayers);
            boolean changed = false;
            for (int h = 0; h < houses.number(); h++) {
                if (hasBit(sayers, h)) {
                    continue;
                }
                int wanted = hasBit(refusing, h) ? owner : NONE;
                if (now.follow(h, before, bestFor(h, open, wanted))) {
                    changed = true;
                }
            }
            return changed;
        }

        /** The houses that pass their way on to all that are tied with them, not to customers alone. */
        private int openHouses(int sayers) {
            int open = sayers | houses.leaking();
            for (int t = 0; t < houses.number(); t++) {
                if (houses.kind(t, before.at(t, 1)) == CUSTOMER) {
                    open |= bit(t);
                }
            }
            return open;
        }

        /** The house from which h takes its way, which has to end at the wanted one if there is such. */
        private int bestFor(int h, int open, int wanted) {
            int best = NONE;
            int bestRank = 0;
            for (int t = 0; t < houses.number(); t++) {
                int kind = houses.kind(h, t);
                int length = before.length(t);
                if (kind == STRANGER || length == 0 || before.isOn(t, h)) {
                    continue;
                }
                boolean passes = kind == PROVIDER || hasBit(open, t);
                boolean taken = wanted == NONE || before.last(t) == wanted;
                // No way is as long as 16, so the kind decides ahead of the length.
                int rank = 16 * kind + length;
                if (passes && taken && (best == NONE || rank < bestRank)) {
                    best = t;
                    bestRank = rank;
                }
            }
            return best;
        }

        /** The house nearest to the end of the way that sent on upwards or sidewards what came from there. */
        int breaker(int house) {
            for (int i = now.length(house) - 2; i >= 1; i--) {
                int middle = now.at(house, i);
                boolean toOwn = houses.kind(middle, now.at(house, i - 1)) == CUSTOMER;
                boolean fromOwn = houses.kind(middle, now.at(house, i + 1)) == CUSTOMER;
                if (!toOwn && !fromOwn) {
                    return middle;
                }
            }
            return NONE;
        }
    }

    /** Where one address goes from each house. */
    private static final class Goings {
        private final Houses houses;
        private final Rights rights;
        private final Sayings sayings;
        private final Settling settling;
        // The house that the address goes to next: itself, where it ends.
        private final int[] hops = new int[MOST_HOUSES];

        Goings(Houses houses, Rights rights, Sayings sayings, Settling settling) {
            this.houses = houses;
            this.rights = rights;
            this.sayings = sayings;
            this.settling = settling;
        }

        /** Finds the hops of an address, if these houses refuse. */
        void look(int address, int refusing) {
            for (int h = 0; h < MOST_HOUSES; h++) {
                hops[h] = LOST;
            }
            int lost = houses.number();
            for (int block = ADDRESSES + address; block >= 1 && lost > 0; block >>= 1) {
                if (sayings.sayers(block) != 0) {
                    settling.settle(block, refusing);
                    lost -= fillHops(settling.ways());
                }
            }
        }

        /** Gives a hop to those houses that had none of a longer block; how many. */
        private int fillHops(Ways ways) {
            int filled = 0;
            for (int h = 0; h < houses.number() && h < MOST_HOUSES; h++) {
                int length = ways.length(h);
                if (hops[h] == LOST && length > 0) {
                    hops[h] = length == 1 ? h : ways.at(h, 1);
                    filled++;
                }
            }
            return filled;
        }

        int end(int house) {
            int here = house;
            // Who has made as many hops as there can be houses is where it was before.
            for (int hop = 0; hop < MOST_HOUSES; hop++) {
                int next = here >= 0 && here < hops.length ? hops[here] : LOST;
                if (next == LOST || next == here) {
                    return next;
                }
                here = next;
            }
            return ROUND;
        }

        /** The houses misled for an address, by bits, if these houses refuse. */
        int astray(int address, int refusing) {
            int owner = rights.owner(ADDRESSES + address);
            if (owner == NONE) {
                return 0;
            }
            look(address, refusing);
            int set = 0;
            for (int h = 0; h < houses.number(); h++) {
                int end = end(h);
                if (end >= 0 && end != owner) {
                    set |= bit(h);
                }
            }
            return set;
        }

        /** The houses that say a block with the address, by bits. */
        int allSayers(int address) {
            int set = 0;
            for (int block = ADDRESSES + address; block >= 1; block >>= 1) {
                set |= sayings.sayers(block);
            }
            return set;
        }

        /** The houses whose refusal could alter where the address goes, by bits. */
        int helpers(int address) {
            int set = 0;
            for (int block = ADDRESSES + address; block >= 1; block >>= 1) {
                int owner = rights.owner(block);
                int sayers = sayings.sayers(block);
                if (owner != NONE && (sayers & ~bit(owner)) != 0) {
                    set |= ~sayers;
                }
            }
            return set & ~houses.refusing();
        }
    }
}
