import java.util.ArrayList;
import java.util.List;
import java.util.function.Supplier;

/**
 * "Refused, and nothing changes, the first that fits": each refused call answers what is due, and
 * the object holds behind it what one holds that was never asked.
 */
public final class RefusalsTest {
    private static final int BAD = -2, TWICE = -3, RING = -4, NOT = -5, FULL = -6;
    private static final int MIN = Integer.MIN_VALUE, MAX = Integer.MAX_VALUE;
    // Those far out are such as a shift, a product or a narrower number would take for one within.
    private static final int[] ODD = {MIN, MIN + 1, -65536, -256, -64, -33, -32, -26, -16, -10, -1, 0, 1, 2, 3, 4, 5, 6, 7, 10, 11,
        16, 31, 32, 33, 38, 63, 64, 65, 128, 256, 65536, 1 << 30, MAX};

    private static final Check check = new Check();

    private interface Call {
        int on(RouteWatch x);
    }

    private final String name;
    private final Supplier<RouteWatch> world;
    private final List<Integer> untouched;
    private final int houses;
    private final int sayings;

    private RefusalsTest(String name, Supplier<RouteWatch> world) {
        this.name = name;
        this.world = world;
        untouched = Probe.answers(world.get());
        houses = untouched.get(0);
        sayings = untouched.get(3);
    }

    public static void main(String[] args) {
        new RefusalsTest("new", RouteWatch::new).goNew();
        new RefusalsTest("small", RefusalsTest::small).goSmall();
        new RefusalsTest("full", RefusalsTest::full).goFull();
        check.end("RefusalsTest");
    }

    private void refused(String call, int want, Call asked) {
        RouteWatch x = world.get();
        check.due(name + ": " + call, asked.on(x), want);
        check.holds(name + ": nothing changes by " + call, Probe.answers(x).equals(untouched));
    }

    /** A question that is answered changes nothing either, though halves and cure suppose what is not so. */
    private void questionsChangeNothing() {
        for (int address = 0; address < 64; address++) {
            int a = address;
            asked("misled(" + a + ")", x -> x.misled(a));
            asked("cure(" + a + ")", x -> x.cure(a));
            asked("goes(0, " + a + ")", x -> x.goes(0, a));
            asked("rightful(6, " + a + ")", x -> x.rightful(6, a));
        }
        for (int k = 0; k < sayings; k++) {
            int saying = k;
            int length = world.get().saying(k, 0);
            int first = world.get().saying(k, 1);
            asked("halves(" + k + ")", x -> x.halves(saying));
            asked("saying(" + k + ", 5)", x -> x.saying(saying, 5));
            asked("rounds of " + k, x -> x.rounds(length, first));
            asked("restless of " + k, x -> x.restless(length, first));
            asked("way of " + k, x -> x.way(length, first, 0, 1));
            asked("broken of " + k, x -> x.broken(length, first, 0));
        }
        asked("watchers()", RouteWatch::watchers);
        asked("count(4)", x -> x.count(4));
    }

    private void asked(String call, Call question) {
        RouteWatch x = world.get();
        check.holds(name + ": is answered: " + call, question.on(x) != BAD);
        check.holds(name + ": nothing changes by " + call, Probe.answers(x).equals(untouched));
    }

    /** Numbers that are none of 0 .. bound - 1. */
    private static List<Integer> outside(int bound) {
        List<Integer> numbers = new ArrayList<>();
        for (int number : ODD) {
            if (number < 0 || number >= bound) {
                numbers.add(number);
            }
        }
        if (!numbers.contains(bound)) {
            numbers.add(bound);
        }
        return numbers;
    }

    /** Lengths with firsts that make no block. */
    private static List<int[]> noBlocks() {
        List<int[]> blocks = new ArrayList<>();
        for (int length : outside(7)) {
            blocks.add(new int[] {length, 0});
        }
        for (int length = 0; length <= 6; length++) {
            int size = 64 >> length;
            for (int first : new int[] {MIN, -64, -size, -1, 1, size / 2, size - 1, size + 1, 63, 64, 64 + size, 128, 65536, MAX}) {
                if (first < 0 || first > 63 || first % size != 0) {
                    blocks.add(new int[] {length, first});
                }
            }
        }
        return blocks;
    }

    private void goNew() {
        badHouses();
        badBlocks();
        badSayings();
        badOthers();
        refused("untie of none", BAD, x -> x.untie(0, 1));
        refused("free of none", NOT, x -> x.free(0, 0));
        refused("free of one address", NOT, x -> x.free(6, 63));
        refused("rounds, nobody says it", NOT, x -> x.rounds(0, 0));
        refused("restless, nobody says it", NOT, x -> x.restless(6, 63));
        refused("way, no house, nobody says it", BAD, x -> x.way(0, 0, 0, 0));
        refused("broken, no house, nobody says it", BAD, x -> x.broken(0, 0, 0));
        refused("saying 0", BAD, x -> x.saying(0, 0));
        refused("halves 0", BAD, x -> x.halves(0));
    }

    private static RouteWatch small() {
        RouteWatch x = World.tied(5, "1>0 2>1 2-3");
        World.right(x, 1, 0, 0);
        World.right(x, 6, 63, 2);
        World.say(x, 1, 0, 0);
        World.say(x, 2, 16, 3);
        World.say(x, 6, 5, 3);
        World.say(x, 3, 56, 1);
        World.leak(x, 1);
        World.refuse(x, 3);
        return x;
    }

    private void goSmall() {
        badHouses();
        badBlocks();
        badSayings();
        badOthers();
        tieTwice();
        tieRing();
        smallTwice();
        smallNot();
        nobodySaysIt();
        halvesNot();
        questionsChangeNothing();
    }

    private void tieTwice() {
        for (int h = 0; h < houses; h++) {
            int house = h;
            refused("tie of " + h + " with itself", TWICE, x -> x.tie(house, house, false));
            refused("tie of " + h + " with itself as peers", TWICE, x -> x.tie(house, house, true));
        }
        refused("tie that is there", TWICE, x -> x.tie(1, 0, false));
        refused("tie that is there, as peers", TWICE, x -> x.tie(1, 0, true));
        refused("tie that is there, the other way: TWICE ahead of RING", TWICE, x -> x.tie(0, 1, false));
        refused("tie that is there, the other way, as peers", TWICE, x -> x.tie(0, 1, true));
        refused("peers that are there", TWICE, x -> x.tie(2, 3, true));
        refused("peers that are there, the other way", TWICE, x -> x.tie(3, 2, true));
        refused("peers that are there, as provider", TWICE, x -> x.tie(2, 3, false));
        refused("peers that are there, as customer", TWICE, x -> x.tie(3, 2, false));
    }

    private void tieRing() {
        refused("a ring of three", RING, x -> x.tie(0, 2, false));
        refused("a house that is not there: BAD ahead of RING", BAD, x -> x.tie(0, 5, false));
    }

    private void smallTwice() {
        refused("right that it has", TWICE, x -> x.right(1, 0, 0));
        refused("right to one address that it has", TWICE, x -> x.right(6, 63, 2));
        refused("say what it says", TWICE, x -> x.say(1, 0, 0));
        refused("say the last saying", TWICE, x -> x.say(3, 56, 1));
        refused("right, no such house: BAD ahead of TWICE", BAD, x -> x.right(1, 0, 5));
        refused("say, no such house: BAD ahead of TWICE", BAD, x -> x.say(1, 0, -1));
    }

    private void smallNot() {
        refused("untie of strangers", NOT, x -> x.untie(0, 2));
        refused("untie of strangers, the other way", NOT, x -> x.untie(4, 3));
        refused("untie of a house with itself", NOT, x -> x.untie(1, 1));
        refused("free of a wider block", NOT, x -> x.free(0, 0));
        refused("free of a longer block", NOT, x -> x.free(2, 0));
        refused("free of the other half", NOT, x -> x.free(1, 32));
        refused("free of the address beside", NOT, x -> x.free(6, 62));
        refused("free, no such block: BAD ahead of NOT", BAD, x -> x.free(2, 8));
        refused("untie, no such house: BAD ahead of NOT", BAD, x -> x.untie(0, 5));
    }

    private void nobodySaysIt() {
        for (int[] block : new int[][] {{0, 0}, {1, 32}, {2, 0}, {2, 48}, {6, 4}, {6, 6}, {6, 63}, {3, 48}, {4, 56}}) {
            String text = "(" + block[0] + ", " + block[1] + "), nobody says it";
            refused("rounds " + text, NOT, x -> x.rounds(block[0], block[1]));
            refused("restless " + text, NOT, x -> x.restless(block[0], block[1]));
            refused("way " + text, NOT, x -> x.way(block[0], block[1], 0, 0));
            refused("way " + text + ", i is high", NOT, x -> x.way(block[0], block[1], 0, MAX));
            refused("way " + text + ", i is -1: BAD ahead of NOT", BAD, x -> x.way(block[0], block[1], 0, -1));
            refused("way " + text + ", no house: BAD ahead of NOT", BAD, x -> x.way(block[0], block[1], 5, 0));
            refused("broken " + text, NOT, x -> x.broken(block[0], block[1], 0));
            refused("broken " + text + ", no house: BAD ahead of NOT", BAD, x -> x.broken(block[0], block[1], 5));
        }
    }

    private void halvesNot() {
        refused("halves of what the RIGHTFUL one says", NOT, x -> x.halves(0));
        refused("halves of one address", NOT, x -> x.halves(2));
        refused("halves where none is RIGHTFUL", NOT, x -> x.halves(3));
    }

    private static RouteWatch full() {
        RouteWatch x = World.tied(10, "1>0 2>1 3>2 4>3 5>4 6>5 7>6 8>7 9>8 0-2 3-5 4-9");
        int[][] rights = {{0, 0, 9}, {1, 0, 0}, {2, 16, 1}, {3, 8, 2}, {4, 4, 3}, {5, 2, 4}, {6, 1, 5}, {6, 63, 6}, {5, 60, 7},
            {4, 56, 8}, {3, 48, 9}, {2, 32, 0}};
        for (int[] right : rights) {
            World.right(x, right[0], right[1], right[2]);
        }
        for (int h = 0; h < 10; h++) {
            World.say(x, 2, 16 * (h % 4), h);
        }
        int[][] sayings = {{0, 0, 9}, {6, 1, 0}, {6, 63, 6}, {5, 2, 5}, {3, 8, 2}, {1, 0, 1}};
        for (int[] saying : sayings) {
            World.say(x, saying[0], saying[1], saying[2]);
        }
        World.leak(x, 2, 5);
        World.refuse(x, 3, 9);
        return x;
    }

    private void goFull() {
        badHouses();
        badBlocks();
        badSayings();
        badOthers();
        fullRings();
        questionsChangeNothing();
        refused("the eleventh house", FULL, RouteWatch::house);
        for (int[] block : new int[][] {{1, 32}, {2, 0}, {3, 0}, {6, 0}, {6, 62}}) {
            refused("right to a thirteenth block", FULL, x -> x.right(block[0], block[1], 0));
        }
        refused("right that it has: TWICE ahead of FULL", TWICE, x -> x.right(6, 63, 6));
        refused("right, no such house: BAD ahead of FULL", BAD, x -> x.right(6, 0, 10));
        refused("right, no such block: BAD ahead of FULL", BAD, x -> x.right(6, 64, 0));
        for (int house = 0; house < 10; house++) {
            int h = house;
            refused("a seventeenth saying", FULL, x -> x.say(6, 0, h));
        }
        refused("a seventeenth saying, of a block that others say", FULL, x -> x.say(2, 0, 1));
        refused("say what it says: TWICE ahead of FULL", TWICE, x -> x.say(0, 0, 9));
        refused("say, no such house: BAD ahead of FULL", BAD, x -> x.say(6, 0, 10));
        refused("say, no such block: BAD ahead of FULL", BAD, x -> x.say(5, 1, 0));
    }

    private void fullRings() {
        for (int low = 0; low < 10; low++) {
            for (int high = low + 1; high < 10; high++) {
                int p = low;
                int c = high;
                boolean tied = high == low + 1 || (low == 0 && high == 2) || (low == 3 && high == 5) || (low == 4 && high == 9);
                refused("tie(" + low + ", " + high + ", false)", tied ? TWICE : RING, x -> x.tie(p, c, false));
            }
        }
    }

    private void badHouses() {
        int there = houses - 1;
        for (int no : outside(houses)) {
            refused("tie(" + no + ", .., false)", BAD, x -> x.tie(no, there, false));
            refused("tie(.., " + no + ", true)", BAD, x -> x.tie(there, no, true));
            refused("tie of " + no + " with itself: BAD ahead of TWICE", BAD, x -> x.tie(no, no, false));
            refused("untie(" + no + ", ..)", BAD, x -> x.untie(no, there));
            refused("untie(.., " + no + ")", BAD, x -> x.untie(there, no));
            refused("untie of " + no + " with itself", BAD, x -> x.untie(no, no));
            refused("right(6, 0, " + no + ")", BAD, x -> x.right(6, 0, no));
            refused("say(6, 0, " + no + ")", BAD, x -> x.say(6, 0, no));
            refused("set(0, " + no + ", true)", BAD, x -> x.set(0, no, true));
            refused("set(0, " + no + ", false)", BAD, x -> x.set(0, no, false));
            refused("set(1, " + no + ", true)", BAD, x -> x.set(1, no, true));
            refused("set(1, " + no + ", false)", BAD, x -> x.set(1, no, false));
            refused("way(1, 0, " + no + ", 0)", BAD, x -> x.way(1, 0, no, 0));
            refused("broken(1, 0, " + no + ")", BAD, x -> x.broken(1, 0, no));
            refused("goes(" + no + ", 0)", BAD, x -> x.goes(no, 0));
        }
    }

    private void badBlocks() {
        for (int[] block : noBlocks()) {
            int length = block[0];
            int first = block[1];
            String text = "(" + length + ", " + first + ")";
            refused("right " + text, BAD, x -> x.right(length, first, 0));
            refused("free " + text, BAD, x -> x.free(length, first));
            refused("rightful " + text, BAD, x -> x.rightful(length, first));
            refused("say " + text, BAD, x -> x.say(length, first, 0));
            refused("rounds " + text, BAD, x -> x.rounds(length, first));
            refused("restless " + text, BAD, x -> x.restless(length, first));
            refused("way " + text, BAD, x -> x.way(length, first, 0, 0));
            refused("broken " + text, BAD, x -> x.broken(length, first, 0));
        }
    }

    private void badSayings() {
        for (int no : outside(sayings)) {
            refused("unsay(" + no + ")", BAD, x -> x.unsay(no));
            refused("halves(" + no + ")", BAD, x -> x.halves(no));
            for (int what = 0; what <= 5; what++) {
                int asked = what;
                refused("saying(" + no + ", " + what + ")", BAD, x -> x.saying(no, asked));
            }
        }
    }

    private void badOthers() {
        for (int no : outside(64)) {
            refused("goes(0, " + no + ")", BAD, x -> x.goes(0, no));
            refused("misled(" + no + ")", BAD, x -> x.misled(no));
            refused("cure(" + no + ")", BAD, x -> x.cure(no));
        }
        for (int no : outside(6)) {
            refused("saying(0, " + no + ")", BAD, x -> x.saying(0, no));
        }
        for (int no : outside(5)) {
            refused("count(" + no + ")", BAD, x -> x.count(no));
        }
        for (int no : outside(2)) {
            refused("set(" + no + ", 0, true)", BAD, x -> x.set(no, 0, true));
            refused("set(" + no + ", 0, false)", BAD, x -> x.set(no, 0, false));
        }
        for (int no : outside(MAX)) {
            if (no < 0) {
                refused("way(1, 0, 0, " + no + ")", BAD, x -> x.way(1, 0, 0, no));
            }
        }
    }
}
