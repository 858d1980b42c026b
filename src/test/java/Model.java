import java.util.ArrayList;
import java.util.List;

/**
 * The document's words taken one by one, with lists and without any care for speed. It shares no
 * code and no form of its state with RouteWatch, so that a slip in one shows against the other.
 */
final class Model {
    static final int NONE = -1, BAD = -2, TWICE = -3, RING = -4, NOT = -5, FULL = -6, LOST = -7, ROUND = -8;

    /** A tie; of peers, if so, else one is the provider of two. */
    private record Tie(int one, int two, boolean peers) { }

    private record Block(int length, int first) {
        boolean has(int address) {
            return address >= first && address < first + (1 << (6 - length));
        }

        boolean isWithin(Block other) {
            for (int address = 0; address < 64; address++) {
                if (has(address) && !other.has(address)) {
                    return false;
                }
            }
            return true;
        }
    }

    private record Right(Block block, int house) { }

    private record Saying(Block block, int house) { }

    /** The ways behind the rounds of a block, one for each house (empty: none), and how many changed. */
    private record Rest(List<List<Integer>> ways, int rounds) { }

    private int houses = 0;
    private final List<Tie> ties = new ArrayList<>();
    private final List<Right> rights = new ArrayList<>();
    private final List<Saying> sayings = new ArrayList<>();
    private final boolean[][] set = new boolean[2][10];

    private boolean isHouse(int h) {
        return h >= 0 && h < houses;
    }

    private static boolean isBlock(int length, int first) {
        if (length < 0 || length > 6 || first < 0 || first > 63) {
            return false;
        }
        return first % (int) Math.round(Math.pow(2, 6 - length)) == 0;
    }

    private Tie tieOf(int a, int b) {
        for (Tie tie : ties) {
            if ((tie.one == a && tie.two == b) || (tie.one == b && tie.two == a)) {
                return tie;
            }
        }
        return null;
    }

    private boolean isProvider(int p, int c) {
        Tie tie = tieOf(p, c);
        return tie != null && !tie.peers && tie.one == p;
    }

    private boolean isPeer(int a, int b) {
        Tie tie = tieOf(a, b);
        return tie != null && tie.peers;
    }

    int house() {
        return houses == 10 ? FULL : houses++;
    }

    int tie(int p, int c, boolean peer) {
        if (!isHouse(p) || !isHouse(c)) {
            return BAD;
        }
        if (p == c || tieOf(p, c) != null) {
            return TWICE;
        }
        ties.add(new Tie(p, c, peer));
        for (int h = 0; h < houses; h++) {
            if (climbs(h, h, houses)) {
                ties.remove(ties.size() - 1);
                return RING;
            }
        }
        return 1;
    }

    private boolean climbs(int from, int to, int steps) {
        for (int p = 0; p < houses && steps > 0; p++) {
            if (isProvider(p, from) && (p == to || climbs(p, to, steps - 1))) {
                return true;
            }
        }
        return false;
    }

    int untie(int a, int b) {
        if (!isHouse(a) || !isHouse(b)) {
            return BAD;
        }
        return ties.remove(tieOf(a, b)) ? 1 : NOT;
    }

    private int holder(Block block) {
        for (Right right : rights) {
            if (right.block.equals(block)) {
                return right.house;
            }
        }
        return NONE;
    }

    int right(int length, int first, int house) {
        if (!isBlock(length, first) || !isHouse(house)) {
            return BAD;
        }
        Block block = new Block(length, first);
        int had = holder(block);
        if (had == house) {
            return TWICE;
        }
        if (had == NONE && rights.size() == 12) {
            return FULL;
        }
        rights.remove(new Right(block, had));
        rights.add(new Right(block, house));
        return had;
    }

    int free(int length, int first) {
        if (!isBlock(length, first)) {
            return BAD;
        }
        Block block = new Block(length, first);
        int had = holder(block);
        return rights.remove(new Right(block, had)) ? had : NOT;
    }

    private int rightfulFor(Block block) {
        Right best = null;
        for (Right right : rights) {
            if (block.isWithin(right.block) && (best == null || right.block.length > best.block.length)) {
                best = right;
            }
        }
        return best == null ? NONE : best.house;
    }

    int rightful(int length, int first) {
        return isBlock(length, first) ? rightfulFor(new Block(length, first)) : BAD;
    }

    private boolean says(int house, Block block) {
        return sayings.contains(new Saying(block, house));
    }

    private boolean isSaid(Block block) {
        for (Saying saying : sayings) {
            if (saying.block.equals(block)) {
                return true;
            }
        }
        return false;
    }

    int say(int length, int first, int house) {
        if (!isBlock(length, first) || !isHouse(house)) {
            return BAD;
        }
        Block block = new Block(length, first);
        if (says(house, block)) {
            return TWICE;
        }
        if (sayings.size() == 16) {
            return FULL;
        }
        sayings.add(new Saying(block, house));
        return sayings.size() - 1;
    }

    int unsay(int saying) {
        if (saying < 0 || saying >= sayings.size()) {
            return BAD;
        }
        sayings.remove(saying);
        return 1;
    }

    int set(int way, int house, boolean on) {
        if (way < 0 || way > 1 || !isHouse(house)) {
            return BAD;
        }
        int was = set[way][house] ? 1 : 0;
        set[way][house] = on;
        return was;
    }

    private boolean passesOn(int t, int h, List<Integer> way, Block block) {
        boolean goesOnToCustomer = way.size() > 1 && isProvider(t, way.get(1));
        return isProvider(t, h) || says(t, block) || goesOnToCustomer || set[0][t];
    }

    private int kind(int h, int t) {
        return isProvider(h, t) ? 1 : isPeer(h, t) ? 2 : 3;
    }

    private boolean isBetter(int h, List<Integer> way, List<Integer> than) {
        if (than.isEmpty()) {
            return true;
        }
        int t = way.get(0);
        int u = than.get(0);
        if (kind(h, t) != kind(h, u)) {
            return kind(h, t) < kind(h, u);
        }
        if (way.size() != than.size()) {
            return way.size() < than.size();
        }
        return t < u;
    }

    private List<Integer> taken(int h, List<List<Integer>> ways, Block block) {
        int rightful = rightfulFor(block);
        List<Integer> best = List.of();
        for (int t = houses - 1; t >= 0; t--) {
            List<Integer> way = ways.get(t);
            if (tieOf(h, t) == null || way.isEmpty() || !passesOn(t, h, way, block) || way.contains(h)) {
                continue;
            }
            if (set[1][h] && rightful != NONE && way.get(way.size() - 1) != rightful) {
                continue;
            }
            if (isBetter(h, way, best)) {
                best = way;
            }
        }
        List<Integer> own = new ArrayList<>();
        if (!best.isEmpty()) {
            own.add(h);
            own.addAll(best);
        }
        return own;
    }

    private Rest rest(Block block) {
        List<List<Integer>> ways = new ArrayList<>();
        for (int h = 0; h < houses; h++) {
            ways.add(says(h, block) ? List.of(h) : List.of());
        }
        for (int round = 1; round <= 50; round++) {
            List<List<Integer>> next = new ArrayList<>();
            for (int h = 0; h < houses; h++) {
                next.add(says(h, block) ? ways.get(h) : taken(h, ways, block));
            }
            if (next.equals(ways)) {
                return new Rest(ways, round - 1);
            }
            ways = next;
        }
        return new Rest(ways, 50);
    }

    private int refused(int length, int first, boolean bad) {
        if (bad || !isBlock(length, first)) {
            return BAD;
        }
        return isSaid(new Block(length, first)) ? 0 : NOT;
    }

    int rounds(int length, int first) {
        int refused = refused(length, first, false);
        return refused != 0 ? refused : rest(new Block(length, first)).rounds;
    }

    int restless(int length, int first) {
        int rounds = rounds(length, first);
        return rounds < 0 ? rounds : rounds == 50 ? 1 : 0;
    }

    int way(int length, int first, int house, int i) {
        int refused = refused(length, first, !isHouse(house) || i < 0);
        if (refused != 0) {
            return refused;
        }
        List<Integer> way = rest(new Block(length, first)).ways.get(house);
        return i < way.size() ? way.get(i) : NONE;
    }

    int broken(int length, int first, int house) {
        int refused = refused(length, first, !isHouse(house));
        if (refused != 0) {
            return refused;
        }
        List<Integer> way = rest(new Block(length, first)).ways.get(house);
        int broken = NONE;
        for (int i = 1; i + 1 < way.size(); i++) {
            int to = way.get(i - 1);
            int by = way.get(i);
            int from = way.get(i + 1);
            if ((isPeer(by, to) || isProvider(to, by)) && (isPeer(by, from) || isProvider(from, by))) {
                broken = by;
            }
        }
        return broken;
    }

    /** The ways to each block that has the address and that some say, the longest block first. */
    private List<Rest> restsFor(int address) {
        List<Rest> rests = new ArrayList<>();
        for (int length = 6; length >= 0; length--) {
            int size = 1 << (6 - length);
            Block block = new Block(length, address / size * size);
            if (isSaid(block)) {
                rests.add(rest(block));
            }
        }
        return rests;
    }

    private int end(int house, List<Rest> rests) {
        List<Integer> met = new ArrayList<>();
        int here = house;
        while (!met.contains(here)) {
            met.add(here);
            List<Integer> way = List.of();
            for (int i = 0; i < rests.size() && way.isEmpty(); i++) {
                way = rests.get(i).ways.get(here);
            }
            if (way.isEmpty()) {
                return LOST;
            }
            if (way.size() == 1) {
                return here;
            }
            here = way.get(1);
        }
        return ROUND;
    }

    int goes(int house, int address) {
        if (!isHouse(house) || address < 0 || address > 63) {
            return BAD;
        }
        return end(house, restsFor(address));
    }

    int misled(int address) {
        if (address < 0 || address > 63) {
            return BAD;
        }
        List<Rest> rests = restsFor(address);
        int rightful = rightfulFor(new Block(6, address));
        int bits = 0;
        for (int h = 0; h < houses && rightful != NONE; h++) {
            int end = end(h, rests);
            if (end != LOST && end != ROUND && end != rightful) {
                bits += 1 << h;
            }
        }
        return bits;
    }

    private boolean isFalse(Saying saying) {
        int rightful = rightfulFor(saying.block);
        return rightful != NONE && rightful != saying.house;
    }

    private int seen(Saying saying) {
        Rest rest = rest(saying.block);
        int bits = 0;
        for (int h = 0; h < houses; h++) {
            List<Integer> way = rest.ways.get(h);
            if (h != saying.house && !way.isEmpty() && way.get(way.size() - 1) == saying.house) {
                bits += 1 << h;
            }
        }
        return bits;
    }

    int saying(int k, int what) {
        if (k < 0 || k >= sayings.size() || what < 0 || what > 5) {
            return BAD;
        }
        Saying saying = sayings.get(k);
        boolean longer = isFalse(saying) && holder(saying.block) == NONE;
        int[] all = {saying.block.length, saying.block.first, saying.house, isFalse(saying) ? 1 : 0, longer ? 1 : 0,
            what == 5 ? seen(saying) : 0};
        return all[what];
    }

    private static boolean isBetterSet(int one, int than) {
        int ones = Integer.bitCount(one);
        return than == NONE || ones < Integer.bitCount(than) || (ones == Integer.bitCount(than) && one < than);
    }

    int watchers() {
        List<Integer> seen = new ArrayList<>();
        for (Saying saying : sayings) {
            if (isFalse(saying) && seen(saying) != 0) {
                seen.add(seen(saying));
            }
        }
        int best = NONE;
        for (int one = 0; one < 1 << houses; one++) {
            boolean meets = true;
            for (int bits : seen) {
                meets &= (bits & one) != 0;
            }
            if (meets && isBetterSet(one, best)) {
                best = one;
            }
        }
        return best;
    }

    int cure(int address) {
        if (address < 0 || address > 63) {
            return BAD;
        }
        int letOff = 0;
        for (Saying saying : sayings) {
            letOff |= saying.block.has(address) ? 1 << saying.house : 0;
        }
        boolean[] before = set[1].clone();
        int best = NONE;
        for (int one = 0; one < 1 << houses; one++) {
            if (!isBetterSet(one, best)) {
                continue;
            }
            for (int h = 0; h < houses; h++) {
                set[1][h] = before[h] || (one >> h) % 2 == 1;
            }
            if ((misled(address) & ~letOff) == 0) {
                best = one;
            }
        }
        set[1] = before;
        return best;
    }

    int halves(int saying) {
        if (saying < 0 || saying >= sayings.size()) {
            return BAD;
        }
        Saying said = sayings.get(saying);
        if (!isFalse(said) || said.block.length == 6) {
            return NOT;
        }
        int length = said.block.length + 1;
        int first = said.block.first;
        int rightful = rightfulFor(said.block);
        int before = sayings.size();
        sayings.add(new Saying(new Block(length, first), rightful));
        sayings.add(new Saying(new Block(length, first + (1 << (6 - length))), rightful));
        int misled = Integer.bitCount(misled(first));
        sayings.subList(before, sayings.size()).clear();
        return misled;
    }

    int count(int what) {
        int falseOnes = 0;
        for (Saying saying : sayings) {
            falseOnes += isFalse(saying) ? 1 : 0;
        }
        return switch (what) {
            case 0 -> houses;
            case 1 -> ties.size();
            case 2 -> rights.size();
            case 3 -> sayings.size();
            case 4 -> falseOnes;
            default -> BAD;
        };
    }
}
