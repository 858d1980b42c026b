/** The boundary cases that the document names in 'What it is' and 'Terms': for each sentence a test of its own. */
public final class TermsBoundsTest {
    private static final int NONE = -1, BAD = -2, TWICE = -3, RING = -4, NOT = -5, FULL = -6, LOST = -7, ROUND = -8;
    private static final int ALL = 1023;

    private static final Check check = new Check();

    private interface Test {
        void go();
    }

    public static void main(String[] args) {
        houses();
        addressesAndBlocks();
        rightsAndSayings();
        ways();
        rounds();
        goings();
        sets();
        check.end("TermsBoundsTest");
    }

    /** A test of its own for one sentence: it has to look at something. */
    private static void sentence(String words, Test test) {
        check.under(words);
        test.go();
        check.over();
    }

    private static void due(String call, int got, int want) {
        check.due(call, got, want);
    }

    private static void dueWay(RouteWatch x, int length, int first, int... want) {
        int house = want[0];
        for (int i = 0; i < want.length; i++) {
            due("way(" + length + ", " + first + ", " + house + ", " + i + ")", x.way(length, first, house, i), want[i]);
        }
        due("way of " + house + ", behind its end", x.way(length, first, house, want.length), NONE);
    }

    private static void dueNoWay(RouteWatch x, int length, int first, int house) {
        due("way(" + length + ", " + first + ", " + house + ", 0)", x.way(length, first, house, 0), NONE);
    }

    private static void houses() {
        sentence("HOUSES are numbered from 0, 10 at most.", TermsBoundsTest::tenHouses);
        sentence("HOUSES .. 10 at most: the tenth is one like the others", TermsBoundsTest::tenthHouse);
        sentence("HOUSES .. 10 at most: bits of all ten", TermsBoundsTest::bitsOfTen);
        sentence("An object is used for at most 512 calls", TermsBoundsTest::manyCalls);
        sentence("Two may have one TIE", TermsBoundsTest::oneTie);
        sentence("Two may have one TIE: each two of ten", TermsBoundsTest::allTies);
        sentence("No HOUSE is a PROVIDER of one of its PROVIDERS, of theirs, and so on.", TermsBoundsTest::noRing);
        sentence("No HOUSE is a PROVIDER ..: two ways up are no ring, peers make none", TermsBoundsTest::almostRings);
        sentence("A HOUSE may LEAK, and it may REFUSE (none does at first).", TermsBoundsTest::noneAtFirst);
    }

    private static void tenHouses() {
        RouteWatch x = new RouteWatch();
        for (int h = 0; h < 10; h++) {
            due("count(0)", x.count(0), h);
            due("not there yet", x.set(0, h, false), BAD);
            due("house()", x.house(), h);
            due("there now", x.set(0, h, false), 0);
            due("the next is not", x.set(0, h + 1, false), BAD);
        }
        for (int more = 0; more < 3; more++) {
            due("the eleventh", x.house(), FULL);
            due("count(0)", x.count(0), 10);
            due("no house 10", x.set(0, 10, false), BAD);
        }
    }

    private static void tenthHouse() {
        RouteWatch x = World.houses(10);
        due("tie", x.tie(9, 0, false), 1);
        due("tie", x.tie(8, 9, true), 1);
        due("untie", x.untie(8, 9), 1);
        due("right", x.right(0, 0, 9), NONE);
        due("rightful", x.rightful(6, 63), 9);
        due("say", x.say(0, 0, 9), 0);
        due("set", x.set(0, 9, true), 0);
        due("set", x.set(0, 9, false), 1);
        due("set", x.set(1, 9, true), 0);
        due("set", x.set(1, 9, false), 1);
        due("way", x.way(0, 0, 9, 0), 9);
        due("way of 0", x.way(0, 0, 0, 1), 9);
        due("broken", x.broken(0, 0, 9), NONE);
        due("goes", x.goes(9, 0), 9);
        due("goes of 0", x.goes(0, 63), 9);
        due("saying", x.saying(0, 2), 9);
        due("right", x.right(0, 0, 0), 9);
        due("free", x.free(0, 0), 0);
    }

    private static void bitsOfTen() {
        RouteWatch x = World.tower(10);
        World.right(x, 0, 0, 9);
        World.say(x, 0, 0, 0);
        due("all but 0 SEE it", x.saying(0, 5), ALL - 1);
        due("all are MISLED", x.misled(0), ALL);
        due("halves", x.halves(0), 0);
        World.say(x, 6, 0, 0);
        due("all are MISLED in spite of the halves", x.halves(0), 10);
        due("9 has it of 8 and that of 7", x.cure(0), 0b10);
        due("unsay", x.unsay(1), 1);
        due("unsay", x.unsay(0), 1);
        World.say(x, 1, 0, 8);
        for (int h = 0; h < 8; h++) {
            due("untie", x.untie(h, h + 1), 1);
        }
        due("9 alone SEES it", x.saying(0, 5), 512);
        due("9 alone is a watcher", x.watchers(), 512);
        due("8 and 9 are MISLED", x.misled(0), 768);
        due("9 alone is a cure", x.cure(0), 512);
    }

    private static void manyCalls() {
        // Two calls for the houses, then 102 times five calls: the last is the 512th.
        RouteWatch x = World.houses(2);
        for (int turn = 0; turn < 102; turn++) {
            boolean even = turn % 2 == 0;
            due("tie and untie", even ? x.tie(0, 1, false) : x.untie(1, 0), 1);
            due("right and free", even ? x.right(3, 8, 1) : x.free(3, 8), even ? NONE : 1);
            due("say and unsay", even ? x.say(3, 8, 0) : x.unsay(0), even ? 0 : 1);
            int way = turn / 2 % 2;
            due("set", x.set(way, 1, even), even ? 0 : 1);
            due("MISLED, 1 unless it REFUSES", x.misled(15), !even ? 0 : way == 1 ? 0b01 : 0b11);
        }
    }

    private static void oneTie() {
        boolean[] kinds = {false, true};
        for (boolean peer : kinds) {
            RouteWatch x = World.houses(2);
            due("the first", x.tie(0, 1, peer), 1);
            for (boolean other : kinds) {
                due("a second", x.tie(0, 1, other), TWICE);
                due("a second, the other way", x.tie(1, 0, other), TWICE);
            }
            due("count(1)", x.count(1), 1);
            due("untie", x.untie(1, 0), 1);
            due("it was one alone", x.untie(0, 1), NOT);
            due("another now", x.tie(1, 0, !peer), 1);
        }
    }

    private static void allTies() {
        RouteWatch x = World.houses(10);
        for (int a = 0; a < 10; a++) {
            for (int b = a + 1; b < 10; b++) {
                due("tie(" + a + ", " + b + ")", x.tie(a, b, (a + b) % 2 == 0), 1);
            }
        }
        due("count(1)", x.count(1), 45);
        for (int a = 0; a < 10; a++) {
            for (int b = 0; b < 10; b++) {
                due("again", x.tie(a, b, true), TWICE);
            }
        }
        for (int a = 0; a < 10; a++) {
            for (int b = a + 1; b < 10; b++) {
                due("untie(" + b + ", " + a + ")", x.untie(b, a), 1);
            }
        }
        due("count(1)", x.count(1), 0);
    }

    private static void noRing() {
        for (int size = 3; size <= 10; size++) {
            RouteWatch x = World.tower(size);
            due("a ring of " + size, x.tie(0, size - 1, false), RING);
            due("count(1)", x.count(1), size - 1);
            due("as peers", x.tie(0, size - 1, true), 1);
            due("untie", x.untie(0, size - 1), 1);
            due("again", x.tie(0, size - 1, false), RING);
            for (int gone = 1; gone < size; gone++) {
                due("untie", x.untie(gone, gone - 1), 1);
                due("open at " + gone, x.tie(0, size - 1, false), 1);
                due("closing it at " + gone, x.tie(gone, gone - 1, false), RING);
                due("untie", x.untie(0, size - 1), 1);
                due("tie", x.tie(gone, gone - 1, false), 1);
            }
        }
    }

    private static void almostRings() {
        RouteWatch two = World.tied(4, "3>1 3>2 1>0 2>0");
        due("the same way down", two.tie(3, 0, false), 1);
        due("across", two.tie(1, 2, false), 1);
        due("across, the other way", two.tie(2, 1, false), TWICE);
        RouteWatch peers = World.tied(4, "1>0 1-2 3>2");
        due("by way of peers", peers.tie(0, 3, false), 1);
        due("2 over 0 over 3 over 2", peers.tie(2, 0, false), RING);
        due("3 over 2, 0 over 3, 1 over 0", peers.tie(1, 3, false), 1);
    }

    private static void noneAtFirst() {
        RouteWatch x = World.houses(10);
        for (int h = 0; h < 10; h++) {
            due("LEAKS", x.set(0, h, h % 2 == 0), 0);
            due("REFUSES", x.set(1, h, h % 3 == 0), 0);
        }
        for (int h = 0; h < 10; h++) {
            due("LEAKS", x.set(0, h, false), h % 2 == 0 ? 1 : 0);
            due("REFUSES", x.set(1, h, false), h % 3 == 0 ? 1 : 0);
        }
    }

    private static void addressesAndBlocks() {
        sentence("ADDRESSES are 0 .. 63.", TermsBoundsTest::addresses);
        sentence("A BLOCK has a LENGTH l (0 .. 6) and a FIRST address, a multiple of 2^(6 - l)", TermsBoundsTest::allFirsts);
        sentence("it has 2^(6 - l) addresses from that on", TermsBoundsTest::addressesOfBlocks);
        sentence("It is WITHIN another one, if all its addresses are in that (also itself).", TermsBoundsTest::within);
    }

    private static void addresses() {
        RouteWatch x = World.tied(3, "1>0");
        World.right(x, 0, 0, 2);
        World.say(x, 0, 0, 0);
        for (int address : new int[] {-1, 0, 1, 62, 63, 64}) {
            boolean there = address >= 0 && address <= 63;
            due("goes(1, " + address + ")", x.goes(1, address), there ? 0 : BAD);
            due("misled(" + address + ")", x.misled(address), there ? 0b011 : BAD);
            due("cure(" + address + ")", x.cure(address), there ? 0b010 : BAD);
            due("rightful(6, " + address + ")", x.rightful(6, address), there ? 2 : BAD);
        }
    }

    private static boolean isBlock(int length, int first) {
        int[] sizes = {64, 32, 16, 8, 4, 2, 1};
        return length >= 0 && length <= 6 && first >= 0 && first <= 63 && first % sizes[length] == 0;
    }

    private static void allFirsts() {
        int blocks = 0;
        for (int length = -2; length <= 8; length++) {
            for (int first = -70; first <= 135; first++) {
                boolean block = isBlock(length, first);
                blocks += block ? 1 : 0;
                eachCallOnABlock(length, first, block);
            }
        }
        due("blocks in all", blocks, 127);
    }

    private static void eachCallOnABlock(int length, int first, boolean block) {
        String text = "(" + length + ", " + first + ")";
        RouteWatch x = World.houses(1);
        due("rightful" + text, x.rightful(length, first), block ? NONE : BAD);
        due("free" + text, x.free(length, first), block ? NOT : BAD);
        due("right" + text, x.right(length, first, 0), block ? NONE : BAD);
        due("rightful" + text, x.rightful(length, first), block ? 0 : BAD);
        due("free" + text, x.free(length, first), block ? 0 : BAD);
        due("rounds" + text, x.rounds(length, first), block ? NOT : BAD);
        due("restless" + text, x.restless(length, first), block ? NOT : BAD);
        due("way" + text, x.way(length, first, 0, 0), block ? NOT : BAD);
        due("broken" + text, x.broken(length, first, 0), block ? NOT : BAD);
        due("say" + text, x.say(length, first, 0), block ? 0 : BAD);
        due("rounds" + text, x.rounds(length, first), block ? 0 : BAD);
        due("restless" + text, x.restless(length, first), block ? 0 : BAD);
        due("way" + text, x.way(length, first, 0, 0), block ? 0 : BAD);
        due("broken" + text, x.broken(length, first, 0), block ? NONE : BAD);
        due("LENGTH of " + text, x.saying(0, 0), block ? length : BAD);
        due("FIRST of " + text, x.saying(0, 1), block ? first : BAD);
    }

    private static void addressesOfBlocks() {
        for (int length = 0; length <= 6; length++) {
            int size = 64 >> length;
            for (int first = 0; first < 64; first += size) {
                RouteWatch x = World.houses(2);
                World.right(x, length, first, 1);
                World.say(x, length, first, 0);
                for (int address = 0; address < 64; address++) {
                    boolean in = address >= first && address - first < size;
                    String text = address + " of (" + length + ", " + first + ")";
                    due("goes " + text, x.goes(0, address), in ? 0 : LOST);
                    due("misled " + text, x.misled(address), in ? 1 : 0);
                    due("rightful " + text, x.rightful(6, address), in ? 1 : NONE);
                }
            }
        }
    }

    private static void within() {
        for (int number = 1; number < 128; number++) {
            int length = lengthOf(number);
            int first = number * (64 >> length) - 64;
            RouteWatch x = World.houses(1);
            World.right(x, length, first, 0);
            for (int other = 1; other < 128; other++) {
                int otherLength = lengthOf(other);
                int size = 64 >> otherLength;
                int from = other * size - 64;
                boolean in = from >= first && from + size <= first + (64 >> length);
                String text = "(" + otherLength + ", " + from + ") in (" + length + ", " + first + ")";
                due("rightful " + text, x.rightful(otherLength, from), in ? 0 : NONE);
            }
        }
    }

    private static int lengthOf(int number) {
        int length = 0;
        while (number >= 2 << length) {
            length++;
        }
        return length;
    }

    private static void rightsAndSayings() {
        sentence("A HOUSE may have the RIGHT to a BLOCK (one HOUSE a BLOCK ..)", TermsBoundsTest::oneHouseABlock);
        sentence("12 BLOCKS with a RIGHT at most", TermsBoundsTest::twelveRights);
        sentence("RIGHTFUL .. the longest BLOCK (by LENGTH) within which it is; none, if there is no such", TermsBoundsTest::longestRight);
        sentence("SAYINGS (16 at most, numbered from 0)", TermsBoundsTest::sixteenSayings);
        sentence("One is FALSE, if some HOUSE is RIGHTFUL for its BLOCK, and it is not that one", TermsBoundsTest::whatIsFalse);
        sentence("it is LONGER, if it is FALSE and no HOUSE has the RIGHT to just that BLOCK", TermsBoundsTest::whatIsLonger);
    }

    private static void oneHouseABlock() {
        RouteWatch x = World.houses(10);
        World.right(x, 4, 60, 0);
        for (int h = 1; h < 10; h++) {
            due("in place of " + (h - 1), x.right(4, 60, h), h - 1);
            due("one BLOCK", x.count(2), 1);
            due("rightful", x.rightful(4, 60), h);
        }
        due("free", x.free(4, 60), 9);
        due("nobody has it", x.free(4, 60), NOT);
        due("count(2)", x.count(2), 0);
    }

    private static void twelveRights() {
        RouteWatch x = World.houses(2);
        for (int i = 0; i < 12; i++) {
            due("count(2)", x.count(2), i);
            due("right " + i, x.right(6, 5 * i, 0), NONE);
        }
        for (int length = 0; length <= 6; length++) {
            due("a thirteenth", x.right(length, 0, 1), length == 6 ? 0 : FULL);
        }
        due("count(2)", x.count(2), 12);
        for (int i = 1; i < 12; i++) {
            due("another house", x.right(6, 5 * i, 1), 0);
            due("a thirteenth", x.right(6, 63, 0), FULL);
        }
        due("not given", x.rightful(6, 63), NONE);
        for (int i = 0; i < 12; i++) {
            due("free", x.free(6, 5 * i), 1);
            due("room for one", x.right(5, 2 * i, 0), NONE);
            due("not for two", x.right(6, 63, 0), FULL);
        }
        due("count(2)", x.count(2), 12);
    }

    private static void longestRight() {
        int[] firsts = {0, 32, 32, 32, 36, 36, 37};
        // Given from the middle outwards, so that the order tells nothing.
        int[] order = {3, 4, 2, 5, 1, 6, 0};
        RouteWatch x = World.houses(7);
        for (int length : order) {
            World.right(x, length, firsts[length], length);
        }
        for (int gone = 6; gone >= 0; gone--) {
            for (int length = 0; length <= 6; length++) {
                due("rightful, lengths to " + gone, x.rightful(length, firsts[length]), Math.min(length, gone));
            }
            due("free", x.free(gone, firsts[gone]), gone);
        }
        for (int length = 0; length <= 6; length++) {
            due("none", x.rightful(length, firsts[length]), NONE);
        }
    }

    private static void sixteenSayings() {
        RouteWatch x = World.houses(2);
        for (int i = 0; i < 16; i++) {
            due("count(3)", x.count(3), i);
            due("not there yet", x.saying(i, 0), BAD);
            due("say", x.say(6, 4 * i, i % 2), i);
            due("there now", x.saying(i, 1), 4 * i);
        }
        for (int length = 0; length <= 6; length++) {
            due("a seventeenth", x.say(length, 0, 1), FULL);
        }
        due("count(3)", x.count(3), 16);
        due("no saying 16", x.saying(16, 0), BAD);
        due("not said", x.rounds(0, 0), NOT);
        for (int i = 0; i < 16; i++) {
            due("unsay", x.unsay(15 - i), 1);
            due("room for one, the last", x.say(5, 2 * i, 0), 15);
            due("not for two", x.say(0, 0, 0), FULL);
        }
    }

    private static void whatIsFalse() {
        RouteWatch x = World.houses(3);
        World.say(x, 3, 24, 1);
        World.say(x, 3, 24, 2);
        due("none is RIGHTFUL", x.saying(0, 3), 0);
        due("count(4)", x.count(4), 0);
        World.right(x, 6, 24, 0);
        due("for a part of it none is RIGHTFUL", x.saying(0, 3), 0);
        World.right(x, 0, 0, 1);
        due("it is that one", x.saying(0, 3), 0);
        due("it is not", x.saying(1, 3), 1);
        due("count(4)", x.count(4), 1);
        World.right(x, 3, 24, 2);
        due("it is not now", x.saying(0, 3), 1);
        due("it is now", x.saying(1, 3), 0);
        due("right", x.right(3, 24, 0), 2);
        due("count(4)", x.count(4), 2);
        due("free", x.free(3, 24), 0);
        due("free", x.free(0, 0), 1);
        due("none is RIGHTFUL", x.count(4), 0);
    }

    private static void whatIsLonger() {
        RouteWatch x = World.houses(2);
        World.say(x, 5, 62, 1);
        due("not FALSE, nobody has the RIGHT", x.saying(0, 4), 0);
        World.right(x, 4, 60, 0);
        due("FALSE by a wider one", x.saying(0, 4), 1);
        World.right(x, 6, 62, 0);
        due("a RIGHT to a part is none to just that", x.saying(0, 4), 1);
        World.right(x, 5, 62, 0);
        due("a RIGHT to just that", x.saying(0, 4), 0);
        due("but FALSE", x.saying(0, 3), 1);
        due("free", x.free(5, 62), 0);
        due("FALSE by a wider one", x.saying(0, 4), 1);
        due("the wider one is its own", x.right(4, 60, 1), 0);
        due("no RIGHT to just that, but not FALSE", x.saying(0, 4), 0);
    }

    private static void ways() {
        sentence("WAYS ..: rows of HOUSES, none twice", TermsBoundsTest::noneTwice);
        sentence("Before ROUND 1 those that say it have themselves as their WAY, others none", TermsBoundsTest::beforeRoundOne);
        sentence("these never change", TermsBoundsTest::neverChange);
        sentence("In a ROUND each other HOUSE h looks, all at once, at the WAYS .. before the ROUND", TermsBoundsTest::allAtOnce);
        sentence("that h is not in", TermsBoundsTest::notItself);
        sentence("if h REFUSES, whose last HOUSE is RIGHTFUL for the BLOCK, or none is", TermsBoundsTest::refusing);
        sentence("from a CUSTOMER rather than from a PEER, from that rather than from a PROVIDER", TermsBoundsTest::kindAheadOfLength);
        sentence("of these the shortest; of these that from the t with the least number", TermsBoundsTest::shortestThenLeast);
        sentence("none, if there is none", TermsBoundsTest::noneToTake);
        sentence("t PASSES its WAY ON to h, if ..", TermsBoundsTest::passesOn);
    }

    /** Behind 50 rounds it is on its way still: each way is as it was in some round, none twice. */
    private static RouteWatch inARound() {
        RouteWatch x = World.tied(10, "1>4 1-5 2-9 3-6 4>3 5>0 7>6 7>9 8>2 8>9");
        World.leak(x, 0, 1, 2, 3, 6, 8, 9);
        World.say(x, 0, 0, 8);
        return x;
    }

    private static void noneTwice() {
        RouteWatch x = inARound();
        for (int h = 0; h < 10; h++) {
            int met = 0;
            for (int i = 0; i < 10; i++) {
                int house = x.way(0, 0, h, i);
                int bit = house < 0 ? 0 : 1 << house;
                check.holds("house " + house + " on the way of " + h + " is new", (met & bit) == 0);
                met |= bit;
            }
            due("no way has eleven", x.way(0, 0, h, 10), NONE);
        }
        RouteWatch high = World.tower(10);
        World.say(high, 6, 1, 9);
        dueWay(high, 6, 1, 0, 1, 2, 3, 4, 5, 6, 7, 8, 9);
    }

    private static void beforeRoundOne() {
        RouteWatch x = World.tower(10);
        for (int h = 0; h < 10; h++) {
            World.say(x, 2, 48, h);
        }
        for (int h = 0; h < 10; h++) {
            dueWay(x, 2, 48, h);
        }
        due("nothing changes", x.rounds(2, 48), 0);
        RouteWatch apart = World.houses(10);
        World.say(apart, 2, 48, 4);
        for (int h = 0; h < 10; h++) {
            due("way of " + h, apart.way(2, 48, h, 0), h == 4 ? 4 : NONE);
        }
    }

    private static void neverChange() {
        // 1 would have it of its customer 0, of its peer 2 and of its provider 3, but it says it itself.
        RouteWatch x = World.tied(4, "1>0 1-2 3>1");
        for (int h = 0; h < 4; h++) {
            World.say(x, 0, 0, h);
        }
        World.right(x, 0, 0, 0);
        dueWay(x, 0, 0, 1);
        World.refuse(x, 1);
        dueWay(x, 0, 0, 1);
        World.leak(x, 0, 2, 3);
        dueWay(x, 0, 0, 1);
        due("nothing changes", x.rounds(0, 0), 0);
    }

    private static void allAtOnce() {
        // One after the other these would be through in one round, whichever end they begin at.
        for (int end = 0; end <= 9; end += 9) {
            RouteWatch x = World.tower(10);
            World.say(x, 0, 0, end);
            due("a round for each step", x.rounds(0, 0), 9);
        }
        // One after the other 1 would take it of 2, and 2, seeing that, stay with 3.
        RouteWatch x = World.tied(4, "3>0 3>1 3>2 1-2");
        World.leak(x, 1, 2);
        World.say(x, 0, 0, 0);
        due("RESTLESS", x.restless(0, 0), 1);
    }

    private static void notItself() {
        RouteWatch x = World.tower(10);
        World.leak(x, 0, 1, 2, 3, 4, 5, 6, 7, 8);
        World.say(x, 0, 0, 9);
        // Each leaks to its provider what it had of that; that would rather have it of a customer.
        for (int h = 0; h < 9; h++) {
            due("on from " + h, x.way(0, 0, h, 1), h + 1);
        }
        due("rounds", x.rounds(0, 0), 9);
    }

    private static void refusing() {
        RouteWatch x = World.tied(4, "0>1 2>0 2>3");
        World.say(x, 2, 0, 1);
        World.say(x, 2, 0, 3);
        World.refuse(x, 0);
        dueWay(x, 2, 0, 0, 1);
        World.right(x, 0, 0, 3);
        dueWay(x, 2, 0, 0, 2, 3);
        World.right(x, 2, 0, 1);
        dueWay(x, 2, 0, 0, 1);
        due("nobody that says it is RIGHTFUL", x.right(2, 0, 2), 1);
        dueNoWay(x, 2, 0, 0);
        due("a refusing house itself is RIGHTFUL, but is silent", x.right(2, 0, 0), 2);
        dueNoWay(x, 2, 0, 0);
        due("free", x.free(2, 0), 0);
        due("free", x.free(0, 0), 3);
        World.right(x, 6, 0, 3);
        World.right(x, 2, 16, 3);
        dueWay(x, 2, 0, 0, 1);
    }

    private static void kindAheadOfLength() {
        RouteWatch down = World.tied(10, "0>1 1>2 2>3 3>4 4>5 5>6 6>7 7>8 8>9 0-9");
        World.say(down, 0, 0, 9);
        dueWay(down, 0, 0, 0, 1, 2, 3, 4, 5, 6, 7, 8, 9);
        due("untie", down.untie(0, 1), 1);
        dueWay(down, 0, 0, 0, 9);
        RouteWatch across = World.tied(10, "0-1 1>2 2>3 3>4 4>5 5>6 6>7 7>8 8>9 9>0");
        World.say(across, 0, 0, 9);
        dueWay(across, 0, 0, 0, 1, 2, 3, 4, 5, 6, 7, 8, 9);
        due("untie", across.untie(0, 1), 1);
        dueWay(across, 0, 0, 0, 9);
        RouteWatch all = World.tied(5, "0>3 0-2 1>0 1>4 2>4 3>4");
        World.say(all, 0, 0, 4);
        dueWay(all, 0, 0, 0, 3, 4);
        due("untie", all.untie(0, 3), 1);
        dueWay(all, 0, 0, 0, 2, 4);
        due("untie", all.untie(0, 2), 1);
        dueWay(all, 0, 0, 0, 1, 4);
    }

    private static void shortestThenLeast() {
        RouteWatch least = World.tied(10, "9>8 9>7 9>6 9>5 9>4 9>3 9>2 9>1 8>0 7>0 6>0 5>0 4>0 3>0 2>0 1>0");
        World.say(least, 0, 0, 0);
        for (int t = 1; t <= 8; t++) {
            dueWay(least, 0, 0, 9, t, 0);
            due("untie", least.untie(9, t), 1);
        }
        dueNoWay(least, 0, 0, 9);
        // 9 by way of 8 is one shorter than by way of 1, 2 or 3.
        RouteWatch shortest = World.tied(10, "9>1 9>2 9>3 9>8 1>4 2>4 3>4 4>0 8>0");
        World.say(shortest, 0, 0, 0);
        dueWay(shortest, 0, 0, 9, 8, 0);
        due("untie", shortest.untie(9, 8), 1);
        dueWay(shortest, 0, 0, 9, 1, 4, 0);
        RouteWatch zero = World.tied(3, "2>0 2>1");
        World.say(zero, 0, 0, 0);
        World.say(zero, 0, 0, 1);
        dueWay(zero, 0, 0, 2, 0);
    }

    private static void noneToTake() {
        RouteWatch x = World.tied(4, "0>1 1-2");
        World.say(x, 0, 0, 3);
        for (int h = 0; h < 3; h++) {
            dueNoWay(x, 0, 0, h);
        }
        due("tie", x.tie(3, 0, false), 1);
        dueWay(x, 0, 0, 1, 0, 3);
        // 1 had it of a provider, so its peer has none of it.
        dueNoWay(x, 0, 0, 2);
        due("untie", x.untie(3, 0), 1);
        dueNoWay(x, 0, 0, 1);
    }

    private static void passesOn() {
        // 1 has it of its customer, peer or provider 0, and 2 is its customer, peer or provider.
        String[] from = {"1>0", "0-1", "0>1"};
        String[] to = {"1>2", "1-2", "2>1"};
        for (int f = 0; f < 3; f++) {
            for (int t = 0; t < 3; t++) {
                RouteWatch x = World.tied(3, from[f] + " " + to[t]);
                World.say(x, 0, 0, 0);
                boolean passes = f == 0 || t == 0;
                due("who says it passes it on", x.way(0, 0, 1, 1), 0);
                due(from[f] + " " + to[t], x.way(0, 0, 2, 1), passes ? 1 : NONE);
                due("nothing BROKEN", x.broken(0, 0, 2), NONE);
                World.leak(x, 1);
                due("it LEAKS", x.way(0, 0, 2, 1), 1);
                due("BROKEN", x.broken(0, 0, 2), passes ? NONE : 1);
            }
        }
    }

    private static void rounds() {
        sentence("ROUNDS go on until one changes nothing (REST; that is not counted)", TermsBoundsTest::restIsNotCounted);
        sentence("ROUNDS go on until one changes nothing: another WAY as long is a change", TermsBoundsTest::asLong);
        sentence("50 at most: 49 change something", TermsBoundsTest::fortyNine);
        sentence("if the 50th changes something, the BLOCK is RESTLESS: 50 do, the 51st would not", TermsBoundsTest::fifty);
        sentence("its WAYS are those behind it: 51 would change something", TermsBoundsTest::fiftyOne);
        sentence("its WAYS are those behind it: 50 is even", TermsBoundsTest::evenAndOdd);
    }

    private static void restIsNotCounted() {
        for (int size = 1; size <= 10; size++) {
            RouteWatch x = World.tower(size);
            World.say(x, 0, 0, 0);
            due("rounds of " + size, x.rounds(0, 0), size - 1);
            due("REST", x.restless(0, 0), 0);
        }
    }

    private static void asLong() {
        // In round 3 house 1 turns from its provider 3 to its customer 4, so 6 turns in round 4 from 1 to 2.
        RouteWatch x = World.tied(7, "3>0 3>1 3>2 1>4 4>5 5>0 1>6 2>6");
        World.say(x, 0, 0, 0);
        dueWay(x, 0, 0, 6, 2, 3, 0);
        due("rounds", x.rounds(0, 0), 4);
    }

    private static void fortyNine() {
        RouteWatch x = World.tied(10, "0-6 0-9 1-2 1-8 2>4 2-8 3>8 4-6 6>9 7>3 9>7");
        World.leak(x, 1, 2, 3, 4, 5, 6, 7, 8, 9);
        World.say(x, 0, 0, 0);
        due("rounds", x.rounds(0, 0), 49);
        due("REST", x.restless(0, 0), 0);
        dueWay(x, 0, 0, 9, 7, 3, 8, 2, 4, 6, 0);
        dueWay(x, 0, 0, 1, 2, 4, 6, 0);
    }

    private static void fifty() {
        RouteWatch x = World.tied(10, "0-2 0>9 1>4 2>3 3>0 4-5 5>2 5-8 6>1 6-9 8>2");
        World.leak(x, 0, 1, 2, 3, 4, 5, 7, 8, 9);
        World.say(x, 0, 0, 8);
        due("rounds", x.rounds(0, 0), 50);
        due("RESTLESS", x.restless(0, 0), 1);
        dueWay(x, 0, 0, 0, 9, 6, 1, 4, 5, 8);
        dueWay(x, 0, 0, 2, 3, 0, 9, 6, 1, 4, 5, 8);
    }

    private static void fiftyOne() {
        RouteWatch x = World.tied(10, "1-2 1>6 1>9 2>8 3>0 3-8 4-7 6>0 6>9 7>8 7-9 9>4");
        World.leak(x, 0, 3, 4, 6, 8, 9);
        World.say(x, 0, 0, 1);
        due("rounds", x.rounds(0, 0), 50);
        due("RESTLESS", x.restless(0, 0), 1);
        // Behind round 49 house 4 has it by way of 9; behind round 51 house 9 has it by way of 4.
        dueWay(x, 0, 0, 4, 7, 8, 3, 0, 6, 1);
        dueWay(x, 0, 0, 9, 7, 8, 3, 0, 6, 1);
    }

    private static void evenAndOdd() {
        // 1 and 2 hear of it in round 2, or, said by 4, in round 3; from then on they turn each round.
        RouteWatch x = World.tied(5, "3>0 3>1 3>2 1-2 0>4");
        World.leak(x, 1, 2);
        World.say(x, 1, 0, 0);
        World.say(x, 1, 32, 4);
        dueWay(x, 1, 0, 1, 3, 0);
        dueWay(x, 1, 0, 2, 3, 0);
        dueWay(x, 1, 32, 1, 2, 3, 0, 4);
        dueWay(x, 1, 32, 2, 1, 3, 0, 4);
    }

    private static void goings() {
        sentence("the longest BLOCK that has the address and to which the HOUSE has a WAY", TermsBoundsTest::longestWay);
        sentence("if it says that itself, it ends there", TermsBoundsTest::endsThere);
        sentence("LOST: where a HOUSE has no such WAY", TermsBoundsTest::lost);
        sentence("ROUND: a HOUSE is come to again", TermsBoundsTest::round);
        sentence("MISLED .. (none, if none is)", TermsBoundsTest::misled);
        sentence("BROKEN .. nearest to its end", TermsBoundsTest::broken);
        sentence("A HOUSE SEES a SAYING, if its WAY .. ends at the HOUSE that says it, and it is another HOUSE.", TermsBoundsTest::sees);
    }

    private static void longestWay() {
        int[] firsts = {0, 0, 16, 24, 28, 30, 31};
        RouteWatch x = World.tied(8, "7>0 7>1 7>2 7>3 7>4 7>5 7>6");
        for (int length = 0; length <= 6; length++) {
            World.say(x, length, firsts[length], length);
        }
        for (int gone = 6; gone >= 0; gone--) {
            due("goes", x.goes(7, 31), gone);
            due("unsay", x.unsay(gone), 1);
        }
        due("nobody says any", x.goes(7, 31), LOST);
        // 0 says a longer one, but 2, which refuses, has a way to the wide one alone.
        RouteWatch two = World.tied(3, "2>0 2>1");
        World.right(two, 0, 0, 1);
        World.say(two, 6, 31, 0);
        World.say(two, 0, 0, 1);
        due("the longest", two.goes(2, 31), 0);
        World.refuse(two, 2);
        due("no way to the longest", two.goes(2, 31), 1);
    }

    private static void endsThere() {
        // 1 says the wide one, 0 the longer one: from 1 it goes to 0, from 0 nowhere else.
        RouteWatch x = World.tower(2);
        World.say(x, 0, 0, 1);
        World.say(x, 1, 0, 0);
        due("from 0", x.goes(0, 0), 0);
        due("from 1, by the longer one", x.goes(1, 0), 0);
        due("from 1, out of the longer one", x.goes(1, 32), 1);
        due("from 0, out of the longer one", x.goes(0, 32), 1);
        RouteWatch high = World.tower(10);
        World.say(high, 0, 0, 9);
        for (int h = 0; h < 10; h++) {
            due("up from " + h, high.goes(h, 63), 9);
        }
    }

    private static void lost() {
        RouteWatch none = World.tower(2);
        due("nobody says any", none.goes(0, 0), LOST);
        World.say(none, 6, 1, 0);
        due("another address", none.goes(0, 0), LOST);
        due("another address", none.goes(1, 2), LOST);
        due("that address", none.goes(1, 1), 0);
        // RESTLESS: behind round 50 house 5 has no way, but others go by it; 4 is seven steps ahead of it.
        RouteWatch x = World.tied(10, "1-4 1>9 2>3 2>8 3>0 3>5 3>6 5-7 6>5 6-7 6-8 8>7 9>0");
        World.leak(x, 0, 1, 2, 4, 5, 6, 7, 8);
        World.say(x, 0, 0, 2);
        World.right(x, 0, 0, 9);
        dueNoWay(x, 0, 0, 5);
        dueWay(x, 0, 0, 4, 1, 9, 0, 3, 2);
        for (int h = 0; h < 10; h++) {
            due("goes from " + h, x.goes(h, 0), h == 2 ? 2 : LOST);
        }
        due("LOST is not MISLED", x.misled(0), 0b100);
    }

    private static void round() {
        RouteWatch x = inARound();
        World.right(x, 0, 0, 0);
        // 0 5 1 4 3 6 7 9 2 and to 9 again: nine houses, the tenth says it.
        int[] next = {5, 4, 9, 6, 3, 1, 7, 9, NONE, 2};
        for (int h = 0; h < 10; h++) {
            due("on from " + h, x.way(0, 0, h, 1), next[h]);
            due("goes from " + h, x.goes(h, 0), h == 8 ? 8 : ROUND);
        }
        due("ROUND is not MISLED", x.misled(0), 1 << 8);
        // As many houses, but none twice, are no ROUND.
        RouteWatch high = World.tower(10);
        World.say(high, 0, 0, 9);
        due("ten houses", high.goes(0, 0), 9);
    }

    private static void misled() {
        RouteWatch x = World.tower(3);
        World.say(x, 0, 0, 0);
        due("none is RIGHTFUL", x.misled(63), 0);
        World.right(x, 6, 63, 2);
        due("that address", x.misled(63), 0b111);
        due("the address beside", x.misled(62), 0);
        due("its own", x.right(6, 63, 0), 2);
        due("it ends at the RIGHTFUL one", x.misled(63), 0);
        World.right(x, 0, 0, 1);
        due("the address beside", x.misled(62), 0b111);
        due("that address", x.misled(63), 0);
        due("unsay", x.unsay(0), 1);
        due("LOST is not MISLED", x.misled(62), 0);
        due("a new object", new RouteWatch().misled(0), 0);
    }

    private static void broken() {
        // Peers all along, each but the first and the last passes on to a peer what it had of a peer.
        RouteWatch x = World.tied(10, "0-1 1-2 2-3 3-4 4-5 5-6 6-7 7-8 8-9");
        World.leak(x, 1, 2, 3, 4, 5, 6, 7, 8);
        World.say(x, 0, 0, 9);
        for (int h = 0; h < 10; h++) {
            due("broken on the way of " + h, x.broken(0, 0, h), h <= 7 ? 8 : NONE);
        }
        World.say(x, 1, 0, 0);
        for (int h = 0; h < 10; h++) {
            due("broken on the way of " + h, x.broken(1, 0, h), h >= 2 ? 1 : NONE);
        }
        due("one does not leak", x.set(0, 5, false), 1);
        due("no way", x.broken(0, 0, 4), NONE);
        due("the last that has one", x.broken(0, 0, 5), 8);
    }

    private static void sees() {
        RouteWatch x = World.tower(3);
        World.say(x, 0, 0, 1);
        due("all others", x.saying(0, 5), 0b101);
        World.say(x, 0, 0, 2);
        due("0, not the other one that says it", x.saying(0, 5), 0b001);
        due("nobody: 1 says it itself", x.saying(1, 5), 0);
        World.say(x, 0, 0, 0);
        for (int k = 0; k < 3; k++) {
            due("all say it", x.saying(k, 5), 0);
        }
        World.say(x, 1, 0, 0);
        due("not by another block", x.saying(2, 5), 0);
        due("by that block", x.saying(3, 5), 0b110);
    }

    private static void sets() {
        sentence("WATCHERS: a set of HOUSES .. each FALSE SAYING that some HOUSE SEES", TermsBoundsTest::noWatchers);
        sentence("WATCHERS: of those with the fewest HOUSES the least number", TermsBoundsTest::fewestWatchers);
        sentence("WATCHERS: all ten", TermsBoundsTest::tenWatchers);
        sentence("CURE: no HOUSE is MISLED for it but such as say a BLOCK with the address", TermsBoundsTest::cureLetsOff);
        sentence("CURE: .. such as say a BLOCK with the address: each address, each LENGTH", TermsBoundsTest::cureOfEachAddress);
        sentence("CURE: FALSE in all LENGTHS", TermsBoundsTest::cureOfAllLengths);
        sentence("CURE: of those with the fewest HOUSES the least number", TermsBoundsTest::fewestCure);
        sentence("CURE: all but the one that says it", TermsBoundsTest::nineCure);
        sentence("CURE: all ten", TermsBoundsTest::tenCure);
        sentence("CURE: if these REFUSE, too", TermsBoundsTest::cureBesides);
        sentence("HALVES: .. if the HOUSE that is RIGHTFUL for it said both halves of it, too", TermsBoundsTest::halvesOfEachLength);
        sentence("HALVES: .. MISLED for the first address of its BLOCK", TermsBoundsTest::halvesAtTheFirstAddress);
    }

    private static void noWatchers() {
        due("a new object", new RouteWatch().watchers(), 0);
        RouteWatch x = World.houses(3);
        World.say(x, 0, 0, 0);
        World.right(x, 0, 0, 2);
        due("FALSE, but nobody SEES it", x.watchers(), 0);
        due("tie", x.tie(1, 0, false), 1);
        due("1 SEES it", x.watchers(), 0b010);
        due("not FALSE", x.right(0, 0, 0), 2);
        due("not FALSE, so nobody need see it", x.watchers(), 0);
        due("free", x.free(0, 0), 0);
        due("none is RIGHTFUL", x.watchers(), 0);
    }

    private static void fewestWatchers() {
        // What 8 says is seen by 0 and 9, what 7 says by 1 and 9, what 6 says by 2 and 9.
        RouteWatch x = World.tied(10, "0>8 9>8 1>7 9>7 2>6 9>6");
        World.refuse(x, 6, 7, 8);
        World.right(x, 0, 0, 5);
        World.say(x, 6, 1, 8);
        World.say(x, 6, 2, 7);
        World.say(x, 6, 3, 6);
        due("one of the highest number rather than three", x.watchers(), 1 << 9);
        due("unsay", x.unsay(2), 1);
        due("rather than two", x.watchers(), 1 << 9);
        due("unsay", x.unsay(1), 1);
        due("the least of two that do", x.watchers(), 1);
    }

    private static void tenWatchers() {
        // Five twos, each with two that see what the other says.
        RouteWatch x = World.tied(10, "0>1 2>3 4>5 6>7 8>9");
        World.right(x, 1, 0, 0);
        World.right(x, 1, 32, 1);
        for (int h = 0; h < 10; h++) {
            World.say(x, 6, h == 0 ? 63 : h, h);
        }
        due("all ten", x.watchers(), ALL);
        due("unsay what 9 says", x.unsay(9), 1);
        due("all but 8", x.watchers(), ALL - (1 << 8));
    }

    private static void cureLetsOff() {
        due("a new object", new RouteWatch().cure(0), 0);
        RouteWatch x = World.tower(3);
        World.right(x, 0, 0, 2);
        World.say(x, 1, 0, 0);
        due("1 and 2 are MISLED", x.cure(31), 0b010);
        due("another address", x.cure(32), 0);
        World.say(x, 0, 0, 1);
        due("1 is let off, 2 is not", x.cure(31), 0b100);
        World.say(x, 6, 31, 2);
        due("2 says it itself", x.cure(31), 0);
        due("not for the address beside", x.cure(30), 0b100);
        due("none is RIGHTFUL", x.free(0, 0), 2);
        due("none is MISLED", x.cure(30), 0);
    }

    private static void cureOfEachAddress() {
        for (int address = 0; address < 64; address++) {
            for (int length = 0; length <= 6; length++) {
                int size = 64 >> length;
                int first = address / size * size;
                RouteWatch x = World.tower(2);
                World.right(x, 0, 0, 0);
                World.say(x, 6, address, 1);
                due("0 says nothing", x.cure(address), 0b01);
                if (length > 0) {
                    World.say(x, length, (first + size) % 64, 0);
                    due("0 says the BLOCK beside", x.cure(address), 0b01);
                }
                World.say(x, length, first, 0);
                due("0 says a BLOCK of LENGTH " + length + " with " + address, x.cure(address), 0);
            }
        }
    }

    private static void cureOfAllLengths() {
        RouteWatch x = World.tied(4, "1>0 2>0 3>0");
        World.right(x, 0, 0, 2);
        for (int length = 0; length <= 6; length++) {
            World.say(x, length, 64 - (64 >> length), 0);
        }
        due("each has it of 0", x.cure(63), 0b1110);
        World.refuse(x, 1);
        due("1 REFUSES", x.cure(63), 0b1100);
    }

    private static void fewestCure() {
        // 9 alone stands between the liar 0 and all others; 1 and 2 besides have it of 0.
        RouteWatch x = World.tied(10, "9>0 9>8 9>7 9>6 9>5 9>4 9>3");
        World.right(x, 0, 0, 2);
        World.say(x, 0, 0, 0);
        due("one of the highest number", x.cure(0), 1 << 9);
        due("tie", x.tie(1, 0, false), 1);
        due("with 1", x.cure(0), 1 << 9 | 1 << 1);
        due("untie", x.untie(9, 0), 1);
        due("untie", x.untie(1, 0), 1);
        due("tie", x.tie(3, 0, true), 1);
        // 3 has it of a peer, and passes it on to none but customers: it has none.
        due("3 alone", x.cure(0), 1 << 3);
        World.leak(x, 3);
        due("3, the least of those that stand between", x.cure(0), 1 << 3);
    }

    private static void nineCure() {
        RouteWatch x = World.tied(10, "1>0 2>0 3>0 4>0 5>0 6>0 7>0 8>0 9>0");
        World.right(x, 0, 0, 9);
        World.say(x, 0, 0, 0);
        due("all but 0", x.cure(0), ALL - 1);
        due("tie", x.tie(9, 8, false), 1);
        due("8 has it of 0 still", x.cure(0), ALL - 1);
        // Nobody can refuse what the one says that has the right to it; the right to one address is another's.
        World.right(x, 6, 0, 8);
        due("right", x.right(0, 0, 0), 9);
        due("no set", x.cure(0), NONE);
        due("the address beside", x.cure(1), 0);
    }

    private static void tenCure() {
        // Came out of a search: also those that say a block pass on, or draw away, what others need.
        RouteWatch x = World.tied(10, "0>3 7>0 0-8 4>1 1-8 2-3 4>2 2>8 2-9 4>3 3-5 3>6 3>8 4-7 9>4 5>6 8>5");
        World.leak(x, 3, 8);
        World.right(x, 1, 0, 4);
        World.right(x, 3, 0, 9);
        int[][] sayings = {{2, 3}, {2, 4}, {4, 2}, {4, 9}, {5, 3}, {5, 9}, {6, 4}};
        for (int[] saying : sayings) {
            World.say(x, saying[0], 0, saying[1]);
        }
        int letOff = 1 << 2 | 1 << 3 | 1 << 4 | 1 << 9;
        due("all ten", x.cure(0), ALL);
        World.refuse(x, 0, 1, 2, 3, 4, 5, 6, 7, 8, 9);
        due("only such as say a BLOCK are MISLED", x.misled(0) & ~letOff, 0);
        due("all do", x.cure(0), 0);
        for (int h = 0; h < 10; h++) {
            due("not " + h, x.set(1, h, false), 1);
            check.holds("others are MISLED without " + h, (x.misled(0) & ~letOff) != 0);
            due("then " + h + " is what is wanting", x.cure(0), 1 << h);
            due("again " + h, x.set(1, h, true), 0);
        }
    }

    private static void cureBesides() {
        RouteWatch x = World.tied(4, "1>0 2>0 3>0");
        World.right(x, 0, 0, 3);
        World.say(x, 0, 0, 0);
        for (int h = 1; h < 4; h++) {
            due("those that do not yet", x.cure(0), 0b1110 & (-1 << h));
            World.refuse(x, h);
        }
        due("all do", x.cure(0), 0);
        due("who says it is MISLED still", x.misled(0), 0b0001);
        due("cure sets nobody", x.set(1, 0, false), 0);
    }

    private static void halvesOfEachLength() {
        for (int length = 0; length <= 6; length++) {
            int size = 64 >> length;
            for (int first = 0; first < 64; first += size) {
                RouteWatch x = World.tower(4);
                World.right(x, 0, 0, 3);
                World.say(x, length, first, 0);
                due("MISLED", x.misled(first), 0b1111);
                due("halves of (" + length + ", " + first + ")", x.halves(0), length == 6 ? NOT : 0);
                due("tie gone", x.untie(2, 1), 1);
                due("two are out of reach", x.halves(0), length == 6 ? NOT : 2);
            }
        }
    }

    private static void halvesAtTheFirstAddress() {
        RouteWatch x = World.tower(2);
        World.right(x, 0, 0, 1);
        World.say(x, 4, 12, 0);
        World.say(x, 6, 13, 0);
        World.say(x, 6, 14, 0);
        World.say(x, 6, 15, 0);
        due("the others are not the first", x.halves(0), 0);
        World.say(x, 6, 12, 0);
        due("the first is", x.halves(0), 2);
        due("unsay", x.unsay(4), 1);
        World.right(x, 6, 12, 0);
        // It is 0 that is RIGHTFUL for the first address, and 1 for the BLOCK, so all go to 1.
        due("by the RIGHT to the first address", x.halves(0), 2);
    }
}
