/** The boundary cases that the document names promise by promise: for each a test of its own. */
public final class PromiseBoundsTest {
    private static final int NONE = -1, BAD = -2, TWICE = -3, RING = -4, NOT = -5, FULL = -6, LOST = -7, ROUND = -8;
    private static final int MIN = Integer.MIN_VALUE, MAX = Integer.MAX_VALUE;
    // The three houses of most tests are 0, 1 and 2.
    private static final int[] NO_HOUSES = {MIN, -32, -1, 3, 4, 10, 32, 33, MAX};
    private static final int[] NO_ADDRESSES = {MIN, -64, -1, 64, 65, 128, 1 << 30, MAX};
    private static final int[][] NO_BLOCKS = {
        {MIN, 0}, {-1, 0}, {7, 0}, {7, 63}, {32, 0}, {38, 0}, {MAX, 0}, {0, 1}, {0, 32}, {0, 64}, {0, -64}, {1, 16}, {1, 33},
        {1, 64}, {2, 8}, {2, 24}, {2, 64}, {3, 4}, {3, 63}, {4, 2}, {4, 62}, {5, 1}, {5, 63}, {5, 64}, {6, -1}, {6, 64}, {6, MIN}, {6, MAX}};

    private static final Check check = new Check();

    private interface Test {
        void go();
    }

    private interface OnBlock {
        int ask(int length, int first);
    }

    private interface OnNumber {
        int ask(int number);
    }

    public static void main(String[] args) {
        building();
        rights();
        sayings();
        blocks();
        addresses();
        falseSayings();
        check.end("PromiseBoundsTest");
    }

    private static void sentence(String words, Test test) {
        check.under(words);
        test.go();
        check.over();
    }

    private static void due(String call, int got, int want) {
        check.due(call, got, want);
    }

    private static void badNumbers(int[] numbers, OnNumber call) {
        for (int number : numbers) {
            due("with " + number, call.ask(number), BAD);
        }
    }

    private static void badBlocks(OnBlock call) {
        for (int[] block : NO_BLOCKS) {
            due("with (" + block[0] + ", " + block[1] + ")", call.ask(block[0], block[1]), BAD);
        }
    }

    private static void building() {
        sentence("1: No HOUSES, RIGHTS, SAYINGS.", PromiseBoundsTest::nothing);
        sentence("2 house: its number. FULL.", PromiseBoundsTest::houseFull);
        sentence("3 tie: BAD", PromiseBoundsTest::tieBad);
        sentence("3 tie: TWICE: also p is c", PromiseBoundsTest::tieTwice);
        sentence("3 tie: RING", PromiseBoundsTest::tieRing);
        sentence("4 untie: BAD", PromiseBoundsTest::untieBad);
        sentence("4 untie: NOT", PromiseBoundsTest::untieNot);
        sentence("10 set: whether it did (1, 0)", PromiseBoundsTest::setDid);
        sentence("10 set: BAD", PromiseBoundsTest::setBad);
    }

    private static void nothing() {
        RouteWatch x = new RouteWatch();
        for (int what = 0; what <= 4; what++) {
            due("count(" + what + ")", x.count(what), 0);
        }
        for (int address = 0; address < 64; address++) {
            due("rightful", x.rightful(6, address), NONE);
            due("free", x.free(6, address), NOT);
            due("rounds", x.rounds(6, address), NOT);
            due("misled", x.misled(address), 0);
            due("cure", x.cure(address), 0);
        }
        due("watchers", x.watchers(), 0);
        due("no house", x.set(0, 0, false), BAD);
        due("no saying", x.unsay(0), BAD);
        due("no saying", x.saying(0, 0), BAD);
        due("no saying", x.halves(0), BAD);
        RouteWatch other = World.houses(1);
        World.right(other, 0, 0, 0);
        World.say(other, 0, 0, 0);
        for (int what = 0; what <= 4; what++) {
            due("what another object has, count(" + what + ")", new RouteWatch().count(what), 0);
        }
    }

    private static void houseFull() {
        RouteWatch x = new RouteWatch();
        for (int h = 0; h < 13; h++) {
            due("house()", x.house(), h < 10 ? h : FULL);
        }
        due("count(0)", x.count(0), 10);
    }

    private static void tieBad() {
        RouteWatch x = World.houses(3);
        badNumbers(NO_HOUSES, no -> x.tie(no, 0, false));
        badNumbers(NO_HOUSES, no -> x.tie(no, 0, true));
        badNumbers(NO_HOUSES, no -> x.tie(2, no, false));
        badNumbers(NO_HOUSES, no -> x.tie(2, no, true));
        badNumbers(NO_HOUSES, no -> x.tie(no, no, true));
        due("with -1 and 3", x.tie(-1, 3, false), BAD);
        badNumbers(new int[] {0}, no -> new RouteWatch().tie(no, no, false));
        due("count(1)", x.count(1), 0);
        due("those that are there", x.tie(2, 0, false), 1);
    }

    private static void tieTwice() {
        RouteWatch x = World.tied(3, "0>1 1-2");
        for (int h = 0; h < 3; h++) {
            due("p is c", x.tie(h, h, false), TWICE);
            due("p is c, peer", x.tie(h, h, true), TWICE);
        }
        due("there", x.tie(0, 1, false), TWICE);
        due("there, peers", x.tie(0, 1, true), TWICE);
        due("there, the other way", x.tie(1, 0, false), TWICE);
        due("there, the other way, peers", x.tie(1, 0, true), TWICE);
        due("peers there", x.tie(1, 2, true), TWICE);
        due("peers there, provider", x.tie(2, 1, false), TWICE);
        due("count(1)", x.count(1), 2);
        due("the third two", x.tie(2, 0, false), 1);
    }

    private static void tieRing() {
        RouteWatch x = World.tied(4, "0>1 1>2 2>3");
        due("of three", x.tie(2, 0, false), RING);
        due("of four", x.tie(3, 0, false), RING);
        due("of three", x.tie(3, 1, false), RING);
        due("count(1)", x.count(1), 3);
        due("peers", x.tie(3, 0, true), 1);
        due("downwards", x.tie(0, 2, false), 1);
        due("untie", x.untie(1, 2), 1);
        due("0 over 2 over 3: 3 is no provider of 1's", x.tie(3, 1, false), 1);
        due("1 is under 3 now", x.tie(1, 2, false), RING);
    }

    private static void untieBad() {
        RouteWatch x = World.tied(3, "0>1");
        badNumbers(NO_HOUSES, no -> x.untie(no, 0));
        badNumbers(NO_HOUSES, no -> x.untie(1, no));
        badNumbers(NO_HOUSES, no -> x.untie(no, no));
        due("count(1)", x.count(1), 1);
    }

    private static void untieNot() {
        RouteWatch x = World.tied(3, "0>1");
        due("never tied", x.untie(1, 2), NOT);
        due("never tied", x.untie(2, 0), NOT);
        for (int h = 0; h < 3; h++) {
            due("with itself", x.untie(h, h), NOT);
        }
        due("tied", x.untie(1, 0), 1);
        due("no more", x.untie(1, 0), NOT);
        due("no more", x.untie(0, 1), NOT);
        due("count(1)", x.count(1), 0);
    }

    private static void setDid() {
        for (int way = 0; way <= 1; way++) {
            RouteWatch x = World.houses(3);
            due("off, off", x.set(way, 2, false), 0);
            due("off, on", x.set(way, 2, true), 0);
            due("on, on", x.set(way, 2, true), 1);
            due("on, off", x.set(way, 2, false), 1);
            due("off, off", x.set(way, 2, false), 0);
            due("the other of the two", x.set(1 - way, 2, true), 0);
            due("is not this one", x.set(way, 2, false), 0);
            due("nor another house's", x.set(1 - way, 1, false), 0);
        }
    }

    private static void setBad() {
        RouteWatch x = World.houses(3);
        badNumbers(NO_HOUSES, no -> x.set(0, no, true));
        badNumbers(NO_HOUSES, no -> x.set(1, no, true));
        badNumbers(NO_HOUSES, no -> x.set(2, no, true));
        badNumbers(new int[] {MIN, -1, 2, 3, 32, 33, MAX}, no -> x.set(no, 0, true));
        for (int h = 0; h < 3; h++) {
            due("LEAKS not", x.set(0, h, false), 0);
            due("REFUSES not", x.set(1, h, false), 0);
        }
    }

    private static void rights() {
        sentence("5 right: in place of the one that had it: that, or NONE", PromiseBoundsTest::rightInPlace);
        sentence("5 right: BAD", PromiseBoundsTest::rightBad);
        sentence("5 right: TWICE: it has it", PromiseBoundsTest::rightTwice);
        sentence("5 right: FULL", PromiseBoundsTest::rightFull);
        sentence("6 free: which had it", PromiseBoundsTest::freeHad);
        sentence("6 free: BAD", () -> badBlocks(World.houses(3)::free));
        sentence("6 free: NOT", PromiseBoundsTest::freeNot);
        sentence("7 rightful: NONE", PromiseBoundsTest::rightfulNone);
        sentence("7 rightful: BAD", PromiseBoundsTest::rightfulBad);
    }

    private static void rightInPlace() {
        RouteWatch x = World.houses(3);
        due("of none", x.right(6, 0, 0), NONE);
        due("of 0", x.right(6, 0, 1), 0);
        due("of 1", x.right(6, 0, 0), 1);
        due("another block", x.right(5, 0, 1), NONE);
        due("free", x.free(6, 0), 0);
        due("of none again", x.right(6, 0, 0), NONE);
        due("count(2)", x.count(2), 2);
    }

    private static void rightBad() {
        RouteWatch x = World.houses(3);
        badBlocks((length, first) -> x.right(length, first, 0));
        badNumbers(NO_HOUSES, no -> x.right(0, 0, no));
        badNumbers(NO_HOUSES, no -> x.right(7, 0, no));
        due("count(2)", x.count(2), 0);
    }

    private static void rightTwice() {
        RouteWatch x = World.houses(3);
        World.right(x, 0, 0, 0);
        World.right(x, 6, 63, 2);
        due("it has it", x.right(0, 0, 0), TWICE);
        due("it has it", x.right(6, 63, 2), TWICE);
        due("it has a wider one alone", x.right(1, 0, 0), NONE);
        due("it has no longer that", x.right(0, 0, 1), 0);
        due("so it may have it", x.right(0, 0, 0), 1);
        due("it has it", x.right(0, 0, 0), TWICE);
    }

    private static void rightFull() {
        RouteWatch x = World.houses(3);
        for (int i = 0; i < 12; i++) {
            World.right(x, 4, 4 * i, 0);
        }
        due("a thirteenth", x.right(4, 48, 0), FULL);
        due("BAD ahead of it", x.right(4, 49, 0), BAD);
        due("BAD ahead of it", x.right(4, 48, 3), BAD);
        due("TWICE ahead of it", x.right(4, 44, 0), TWICE);
        due("no thirteenth: in place of another", x.right(4, 44, 1), 0);
        due("free", x.free(4, 0), 0);
        due("the twelfth", x.right(4, 48, 0), NONE);
        due("a thirteenth", x.right(4, 0, 0), FULL);
    }

    private static void freeHad() {
        RouteWatch x = World.houses(3);
        for (int h = 0; h < 3; h++) {
            World.right(x, 0, 0, h);
            due("free", x.free(0, 0), h);
            due("count(2)", x.count(2), 0);
        }
    }

    private static void freeNot() {
        RouteWatch x = World.houses(3);
        due("none ever", x.free(3, 8), NOT);
        World.right(x, 3, 8, 0);
        due("a half", x.free(4, 8), NOT);
        due("the double", x.free(2, 0), NOT);
        due("beside", x.free(3, 16), NOT);
        due("that", x.free(3, 8), 0);
        due("no more", x.free(3, 8), NOT);
        due("BAD ahead of it", x.free(3, 9), BAD);
    }

    private static void rightfulNone() {
        RouteWatch x = World.houses(3);
        due("no RIGHTS", x.rightful(0, 0), NONE);
        World.right(x, 1, 32, 0);
        due("a wider one", x.rightful(0, 0), NONE);
        due("the other half", x.rightful(1, 0), NONE);
        due("just ahead", x.rightful(6, 31), NONE);
        due("the first", x.rightful(6, 32), 0);
        due("the last", x.rightful(6, 63), 0);
    }

    private static void rightfulBad() {
        RouteWatch x = World.houses(3);
        World.right(x, 0, 0, 0);
        badBlocks(x::rightful);
    }

    private static void sayings() {
        sentence("8 say: its number", PromiseBoundsTest::sayNumber);
        sentence("8 say: BAD", PromiseBoundsTest::sayBad);
        sentence("8 say: TWICE", PromiseBoundsTest::sayTwice);
        sentence("8 say: FULL", PromiseBoundsTest::sayFull);
        sentence("9 unsay: (those behind it get a number less)", PromiseBoundsTest::unsayEach);
        sentence("9 unsay: BAD", PromiseBoundsTest::unsayBad);
    }

    private static void sayNumber() {
        RouteWatch x = World.houses(10);
        for (int h = 0; h < 10; h++) {
            due("one block, many houses", x.say(0, 0, h), h);
        }
        for (int length = 1; length <= 6; length++) {
            due("one house, many blocks", x.say(length, 0, 9), 9 + length);
        }
    }

    private static void sayBad() {
        RouteWatch x = World.houses(3);
        badBlocks((length, first) -> x.say(length, first, 0));
        badNumbers(NO_HOUSES, no -> x.say(0, 0, no));
        badNumbers(NO_HOUSES, no -> x.say(7, 0, no));
        due("count(3)", x.count(3), 0);
    }

    private static void sayTwice() {
        RouteWatch x = World.houses(3);
        World.say(x, 2, 32, 0);
        World.say(x, 2, 32, 2);
        due("it says it", x.say(2, 32, 0), TWICE);
        due("it says it", x.say(2, 32, 2), TWICE);
        due("another house", x.say(2, 32, 1), 2);
        due("another block", x.say(3, 32, 0), 3);
        due("unsay", x.unsay(0), 1);
        due("no more", x.say(2, 32, 0), 3);
        due("it says it", x.say(2, 32, 0), TWICE);
    }

    private static void sayFull() {
        RouteWatch x = World.houses(3);
        for (int i = 0; i < 16; i++) {
            due("say", x.say(6, i, 0), i);
        }
        due("a seventeenth", x.say(6, 16, 0), FULL);
        due("a seventeenth, of a block that is said", x.say(6, 0, 1), FULL);
        due("BAD ahead of it", x.say(6, 64, 0), BAD);
        due("BAD ahead of it", x.say(6, 16, 3), BAD);
        due("TWICE ahead of it", x.say(6, 15, 0), TWICE);
        due("not said", x.rounds(6, 16), NOT);
    }

    private static void unsayEach() {
        for (int gone = 0; gone < 16; gone++) {
            RouteWatch x = World.houses(2);
            for (int i = 0; i < 16; i++) {
                due("say", x.say(6, 3 * i, i % 2), i);
            }
            due("unsay(" + gone + ")", x.unsay(gone), 1);
            due("count(3)", x.count(3), 15);
            for (int k = 0; k < 15; k++) {
                int was = k < gone ? k : k + 1;
                due("FIRST of " + k, x.saying(k, 1), 3 * was);
                due("HOUSE of " + k, x.saying(k, 2), was % 2);
            }
            due("no saying 15", x.saying(15, 1), BAD);
            due("nobody says it", x.rounds(6, 3 * gone), NOT);
            due("again, as the last", x.say(6, 3 * gone, gone % 2), 15);
        }
    }

    private static void unsayBad() {
        due("a new object", new RouteWatch().unsay(0), BAD);
        RouteWatch x = World.houses(1);
        World.say(x, 0, 0, 0);
        World.say(x, 1, 0, 0);
        badNumbers(new int[] {MIN, -32, -1, 2, 15, 16, 32, MAX}, x::unsay);
        due("count(3)", x.count(3), 2);
        due("unsay", x.unsay(1), 1);
        due("no more", x.unsay(1), BAD);
        due("unsay", x.unsay(0), 1);
        due("no more", x.unsay(0), BAD);
    }

    private static void blocks() {
        sentence("11 rounds: 50 also if it is RESTLESS", PromiseBoundsTest::roundsFifty);
        sentence("11 rounds: BAD", () -> badBlocks(swaying()::rounds));
        sentence("11 rounds: NOT: nobody says the BLOCK", () -> saidByNone((x, block) -> x.rounds(block[0], block[1])));
        sentence("12 restless: (1, 0)", PromiseBoundsTest::restlessOrNot);
        sentence("12 restless: BAD", () -> badBlocks(swaying()::restless));
        sentence("12 restless: NOT", () -> saidByNone((x, block) -> x.restless(block[0], block[1])));
        sentence("13 way: HOUSE i (from 0)", PromiseBoundsTest::wayFromZero);
        sentence("13 way: NONE: it has not so many, or no WAY", PromiseBoundsTest::wayNone);
        sentence("13 way: BAD", PromiseBoundsTest::wayBad);
        sentence("13 way: NOT", () -> saidByNone((x, block) -> x.way(block[0], block[1], 2, 0)));
        sentence("14 broken: NONE", PromiseBoundsTest::brokenNone);
        sentence("14 broken: BAD", PromiseBoundsTest::brokenBad);
        sentence("14 broken: NOT", () -> saidByNone((x, block) -> x.broken(block[0], block[1], 2)));
    }

    /** 0 and 1 take it from each other, since both leak; 2 provides for both and for 3, which says it. */
    private static RouteWatch swaying() {
        RouteWatch x = World.tied(4, "2>0 2>1 2>3 0-1");
        World.leak(x, 0, 1);
        World.say(x, 0, 0, 3);
        return x;
    }

    private static void roundsFifty() {
        RouteWatch x = swaying();
        due("RESTLESS", x.rounds(0, 0), 50);
        due("not", x.set(0, 0, false), 1);
        due("not RESTLESS", x.rounds(0, 0), 3);
    }

    private static void restlessOrNot() {
        RouteWatch x = swaying();
        due("RESTLESS", x.restless(0, 0), 1);
        due("not", x.set(0, 0, false), 1);
        due("not RESTLESS", x.restless(0, 0), 0);
        World.say(x, 6, 0, 0);
        World.say(x, 6, 0, 1);
        World.say(x, 6, 0, 2);
        due("one round", x.rounds(6, 0), 1);
        due("not RESTLESS", x.restless(6, 0), 0);
        World.say(x, 6, 0, 3);
        due("no round", x.rounds(6, 0), 0);
        due("not RESTLESS", x.restless(6, 0), 0);
    }

    private interface OnSaid {
        int ask(RouteWatch x, int[] block);
    }

    private static void saidByNone(OnSaid call) {
        RouteWatch x = World.tied(3, "2>0 2>1");
        int[] block = {4, 20};
        due("nobody ever", call.ask(x, block), NOT);
        World.right(x, 4, 20, 0);
        due("one has the RIGHT, but is silent", call.ask(x, block), NOT);
        World.say(x, 3, 16, 0);
        World.say(x, 5, 20, 0);
        World.say(x, 4, 16, 0);
        World.say(x, 4, 24, 0);
        due("a wider, a longer, one beside", call.ask(x, block), NOT);
        World.say(x, 4, 20, 0);
        World.say(x, 4, 20, 1);
        check.holds("two say it", call.ask(x, block) != NOT);
        due("unsay", x.unsay(4), 1);
        check.holds("one says it", call.ask(x, block) != NOT);
        due("unsay", x.unsay(4), 1);
        due("nobody any more", call.ask(x, block), NOT);
        due("BAD ahead of it", call.ask(x, new int[] {4, 22}), BAD);
    }

    private static void wayFromZero() {
        RouteWatch x = World.tower(10);
        World.say(x, 0, 0, 9);
        for (int h = 0; h < 10; h++) {
            for (int i = 0; i <= 10; i++) {
                due("way(0, 0, " + h + ", " + i + ")", x.way(0, 0, h, i), h + i <= 9 ? h + i : NONE);
            }
        }
    }

    private static void wayNone() {
        RouteWatch x = World.tied(3, "1>0");
        World.say(x, 0, 0, 0);
        // Some of these a shift would take for 0 or 1.
        for (int i : new int[] {1, 2, 3, 10, 15, 16, 17, 32, 33, 64, 1 << 28, 1 << 29, 1 << 30, (1 << 30) + 1, MAX}) {
            due("of one house, i " + i, x.way(0, 0, 0, i), NONE);
            due("of two houses, i " + i, x.way(0, 0, 1, i), i == 1 ? 0 : NONE);
            due("no WAY, i " + i, x.way(0, 0, 2, i), NONE);
        }
        due("no WAY, i 0", x.way(0, 0, 2, 0), NONE);
    }

    private static void wayBad() {
        RouteWatch x = World.houses(3);
        for (int said = 0; said <= 1; said++) {
            badBlocks((length, first) -> x.way(length, first, 0, 0));
            badNumbers(NO_HOUSES, no -> x.way(0, 0, no, 0));
            badNumbers(new int[] {MIN, MIN + 1, -(1 << 30), -16, -1}, no -> x.way(0, 0, 0, no));
            badNumbers(new int[] {MIN, -1}, no -> x.way(0, 0, 2, no));
            due("say", x.say(0, 0, said), said);
        }
    }

    private static void brokenNone() {
        RouteWatch x = World.tied(5, "0-1 1-2 2>3");
        World.say(x, 0, 0, 0);
        World.leak(x, 1);
        due("a WAY of one", x.broken(0, 0, 0), NONE);
        due("a WAY of two", x.broken(0, 0, 1), NONE);
        due("a WAY of three", x.broken(0, 0, 2), 1);
        due("a WAY of four", x.broken(0, 0, 3), 1);
        due("no WAY", x.broken(0, 0, 4), NONE);
        World.say(x, 1, 0, 1);
        due("one that says it has it of none", x.broken(1, 0, 2), NONE);
        due("2 had it of a PEER, 3 is its CUSTOMER", x.broken(1, 0, 3), NONE);
    }

    private static void brokenBad() {
        RouteWatch x = World.houses(3);
        for (int said = 0; said <= 1; said++) {
            badBlocks((length, first) -> x.broken(length, first, 0));
            badNumbers(NO_HOUSES, no -> x.broken(0, 0, no));
            due("say", x.say(0, 0, said), said);
        }
    }

    private static void addresses() {
        sentence("15 goes: the HOUSE where it ends; LOST; ROUND", PromiseBoundsTest::goesEnds);
        sentence("15 goes: BAD", PromiseBoundsTest::goesBad);
        sentence("16 misled: told by bits of HOUSES", PromiseBoundsTest::misledBits);
        sentence("16 misled: BAD", () -> badNumbers(NO_ADDRESSES, World.houses(3)::misled));
    }

    private static void goesEnds() {
        // Behind round 50 it is even: each has it by 2; said by 4 a round later each has it of the other.
        RouteWatch x = World.tied(6, "2>0 2>1 2>3 0-1 3>4");
        World.leak(x, 0, 1);
        World.say(x, 1, 0, 3);
        World.say(x, 1, 32, 4);
        due("it ends", x.goes(0, 0), 3);
        due("it ends where it begins", x.goes(3, 31), 3);
        due("LOST", x.goes(5, 0), LOST);
        due("ROUND", x.goes(0, 32), ROUND);
        due("ROUND", x.goes(1, 63), ROUND);
        due("ahead of the ring", x.goes(2, 63), 4);
        World.say(x, 6, 63, 0);
        due("house 0", x.goes(1, 63), 0);
    }

    private static void goesBad() {
        RouteWatch x = World.houses(3);
        World.say(x, 0, 0, 0);
        badNumbers(NO_HOUSES, no -> x.goes(no, 0));
        badNumbers(NO_ADDRESSES, no -> x.goes(0, no));
        badNumbers(NO_ADDRESSES, no -> x.goes(3, no));
        due("no house", new RouteWatch().goes(0, 0), BAD);
    }

    private static void misledBits() {
        for (int h = 0; h < 10; h++) {
            RouteWatch x = World.houses(10);
            World.right(x, 0, 0, h == 0 ? 9 : 0);
            World.say(x, 6, 63, h);
            due("house " + h + " alone", x.misled(63), 1 << h);
            due("none", x.misled(62), 0);
        }
    }

    private static void falseSayings() {
        sentence("17 saying: 0 LENGTH .. 5 HOUSES that SEE it", PromiseBoundsTest::sayingWhat);
        sentence("17 saying: BAD", PromiseBoundsTest::sayingBad);
        sentence("18 watchers: none is wanted", PromiseBoundsTest::watchersNone);
        sentence("19 cure: NONE: no set of HOUSES is one", PromiseBoundsTest::cureNone);
        sentence("19 cure: BAD", () -> badNumbers(NO_ADDRESSES, World.houses(3)::cure));
        sentence("20 halves: BAD", PromiseBoundsTest::halvesBad);
        sentence("20 halves: NOT: it is not FALSE", PromiseBoundsTest::halvesNotFalse);
        sentence("20 halves: NOT: its BLOCK has one address", PromiseBoundsTest::halvesOneAddress);
        sentence("20 halves: with 16 SAYINGS there", PromiseBoundsTest::halvesFull);
        sentence("21 count: 0 .. 4", PromiseBoundsTest::countFull);
        sentence("21 count: BAD", PromiseBoundsTest::countBad);
    }

    private static void sayingWhat() {
        RouteWatch x = World.tower(3);
        World.right(x, 5, 60, 0);
        World.say(x, 6, 61, 2);
        World.say(x, 5, 60, 2);
        World.say(x, 0, 0, 0);
        int[][] want = {{6, 61, 2, 1, 1, 0b011}, {5, 60, 2, 1, 0, 0b011}, {0, 0, 0, 0, 0, 0b110}};
        for (int k = 0; k < 3; k++) {
            for (int what = 0; what <= 5; what++) {
                due("saying(" + k + ", " + what + ")", x.saying(k, what), want[k][what]);
            }
        }
    }

    private static void sayingBad() {
        RouteWatch x = World.houses(1);
        World.say(x, 0, 0, 0);
        World.say(x, 1, 0, 0);
        for (int what = 0; what <= 5; what++) {
            int asked = what;
            badNumbers(new int[] {MIN, -1, 2, 15, 16, 32, MAX}, no -> x.saying(no, asked));
        }
        badNumbers(new int[] {MIN, -1, 6, 7, 32, MAX}, no -> x.saying(1, no));
        badNumbers(new int[] {MIN, -1, 6, MAX}, no -> x.saying(no, no));
    }

    private static void watchersNone() {
        due("no houses", new RouteWatch().watchers(), 0);
        RouteWatch x = World.tower(3);
        due("no sayings", x.watchers(), 0);
        World.say(x, 0, 0, 0);
        due("no rights", x.watchers(), 0);
        World.right(x, 0, 0, 2);
        due("1 and 2 SEE it", x.watchers(), 0b010);
        World.refuse(x, 1);
        due("nobody SEES it", x.watchers(), 0);
    }

    private static void cureNone() {
        // None is RIGHTFUL for the wide block that 0 says, so nobody refuses it; one address is the right of 2.
        RouteWatch x = World.tower(3);
        World.right(x, 6, 63, 2);
        World.say(x, 0, 0, 0);
        due("no set", x.cure(63), NONE);
        due("another address", x.cure(62), 0);
        World.refuse(x, 0, 1, 2);
        due("all refuse", x.cure(63), NONE);
        World.right(x, 0, 0, 1);
        due("all refuse what is FALSE now", x.cure(63), 0);
        due("1 does not", x.set(1, 1, false), 1);
        due("2 does, so 1 is wanting", x.cure(63), 0b010);
        due("it is its own", x.right(0, 0, 0), 1);
        due("not FALSE, so no set", x.cure(63), NONE);
    }

    private static void halvesBad() {
        due("a new object", new RouteWatch().halves(0), BAD);
        RouteWatch x = World.houses(2);
        World.right(x, 0, 0, 1);
        World.say(x, 0, 0, 0);
        badNumbers(new int[] {MIN, -1, 1, 16, 32, MAX}, x::halves);
        due("one that is there", x.halves(0), 1);
    }

    private static void halvesNotFalse() {
        RouteWatch x = World.houses(2);
        World.say(x, 0, 0, 0);
        due("none is RIGHTFUL", x.halves(0), NOT);
        World.right(x, 0, 0, 0);
        due("it is RIGHTFUL", x.halves(0), NOT);
        World.right(x, 1, 0, 1);
        due("for a half another is", x.halves(0), NOT);
        due("for the whole another is", x.right(0, 0, 1), 0);
        due("FALSE", x.halves(0), 1);
    }

    private static void halvesOneAddress() {
        RouteWatch x = World.houses(2);
        World.right(x, 0, 0, 1);
        World.say(x, 6, 0, 0);
        World.say(x, 6, 63, 0);
        World.say(x, 5, 62, 0);
        World.say(x, 6, 5, 1);
        due("one address, the first", x.halves(0), NOT);
        due("one address, the last", x.halves(1), NOT);
        due("two addresses", x.halves(2), 1);
        due("one address, and not FALSE", x.halves(3), NOT);
    }

    private static void halvesFull() {
        RouteWatch x = World.tower(2);
        World.right(x, 0, 0, 1);
        for (int i = 0; i < 15; i++) {
            World.say(x, 6, 63 - i, 0);
        }
        World.say(x, 1, 0, 0);
        due("both halves said besides", x.halves(15), 0);
        due("the halves are not kept", x.count(3), 16);
        due("nor are they said", x.rounds(2, 0), NOT);
        due("nor are they said", x.rounds(2, 16), NOT);
    }

    private static void countFull() {
        RouteWatch x = World.tied(10, "0>1 1>2 2>3 3>4 4>5 5>6 6>7 7>8 8-9");
        for (int i = 0; i < 12; i++) {
            World.right(x, 6, i, 0);
        }
        for (int i = 0; i < 16; i++) {
            World.say(x, 6, i, i % 2);
        }
        int[] want = {10, 9, 12, 16, 6};
        for (int what = 0; what <= 4; what++) {
            due("count(" + what + ")", x.count(what), want[what]);
        }
    }

    private static void countBad() {
        badNumbers(new int[] {MIN, -32, -1, 5, 6, 32, MAX}, new RouteWatch()::count);
        badNumbers(new int[] {MIN, -1, 5, MAX}, World.houses(10)::count);
    }
}
