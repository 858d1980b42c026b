/** Each promise of the document: ordinary inputs, the edges that it names, and wrong inputs. */
public final class PromisesTest {
    private static final int NONE = -1, BAD = -2, TWICE = -3, RING = -4, NOT = -5, FULL = -6, LOST = -7, ROUND = -8;
    private static final int MIN = Integer.MIN_VALUE, MAX = Integer.MAX_VALUE;
    private static final int[] NO_HOUSES = {MIN, -1, 3, 10, MAX};
    // Each with a first address: a length or an address out of its bounds, or no multiple.
    private static final int[][] NO_BLOCKS = {
        {-1, 0}, {7, 0}, {MIN, 0}, {MAX, 0}, {0, 1}, {0, 32}, {0, 64}, {1, 16}, {1, 31}, {1, 64}, {2, 8}, {3, 4},
        {4, 2}, {5, 1}, {5, 63}, {6, 64}, {6, -1}, {0, -64}, {6, MIN}, {6, MAX}, {1, -32}};

    private static final Check check = new Check();

    private static void due(String call, int got, int want) {
        check.due(call, got, want);
    }

    public static void main(String[] args) {
        newObject();
        house();
        tie();
        untie();
        right();
        free();
        rightful();
        say();
        unsay();
        set();
        rounds();
        restless();
        way();
        wayOrder();
        wayRefused();
        broken();
        goes();
        misled();
        saying();
        watchers();
        cure();
        cureNone();
        halves();
        count();
        refusedChangesNothing();
        check.end("PromisesTest");
    }

    private static RouteWatch withHouses(int number) {
        RouteWatch x = new RouteWatch();
        for (int h = 0; h < number; h++) {
            due("house()", x.house(), h);
        }
        return x;
    }

    /** 1 provides for 0, 2 for 1, and so on: the house with the highest number is on top. */
    private static RouteWatch tower(int number) {
        RouteWatch x = withHouses(number);
        for (int h = 1; h < number; h++) {
            due("tie", x.tie(h, h - 1, false), 1);
        }
        return x;
    }

    private static void dueWay(RouteWatch x, int length, int first, int house, int... want) {
        for (int i = 0; i < want.length; i++) {
            due("way(" + length + ", " + first + ", " + house + ", " + i + ")", x.way(length, first, house, i), want[i]);
        }
        due("way(.., " + house + ", behind its end)", x.way(length, first, house, want.length), NONE);
    }

    private static void newObject() {
        RouteWatch x = new RouteWatch();
        for (int what = 0; what <= 4; what++) {
            due("1: count(" + what + ")", x.count(what), 0);
        }
        due("1: rightful(0, 0)", x.rightful(0, 0), NONE);
        due("1: misled(0)", x.misled(0), 0);
        due("1: watchers()", x.watchers(), 0);
        due("1: cure(63)", x.cure(63), 0);
        due("1: way(0, 0, 0, 0)", x.way(0, 0, 0, 0), BAD);
        due("1: saying(0, 0)", x.saying(0, 0), BAD);
        RouteWatch y = withHouses(2);
        due("1: another object is on its own", x.count(0), 0);
        due("1: no leak at first", y.set(0, 1, true), 0);
        due("1: no refusal at first", y.set(1, 1, true), 0);
    }

    private static void house() {
        RouteWatch x = withHouses(10);
        due("2: the eleventh", x.house(), FULL);
        due("2: the twelfth", x.house(), FULL);
        due("2: count(0)", x.count(0), 10);
        due("2: house 9 is there", x.tie(9, 0, false), 1);
    }

    private static void tie() {
        RouteWatch x = withHouses(3);
        for (int no : NO_HOUSES) {
            due("3: tie(" + no + ", 0)", x.tie(no, 0, false), BAD);
            due("3: tie(0, " + no + ")", x.tie(0, no, true), BAD);
            due("3: tie(" + no + ", itself)", x.tie(no, no, false), BAD);
        }
        due("3: tie(1, 1, false)", x.tie(1, 1, false), TWICE);
        due("3: tie(1, 1, true)", x.tie(1, 1, true), TWICE);
        due("3: tie(0, 1, false)", x.tie(0, 1, false), 1);
        due("3: again", x.tie(0, 1, false), TWICE);
        due("3: again, as peers", x.tie(0, 1, true), TWICE);
        due("3: TWICE comes before RING", x.tie(1, 0, false), TWICE);
        due("3: tie(1, 2, false)", x.tie(1, 2, false), 1);
        due("3: tie(2, 0, false)", x.tie(2, 0, false), RING);
        due("3: what was refused is not there", x.untie(2, 0), NOT);
        due("3: no ring of peers", x.tie(2, 0, true), 1);
        due("3: as peers, then the other way round", x.tie(0, 2, true), TWICE);
        due("3: count(1)", x.count(1), 3);
        RouteWatch high = tower(10);
        due("3: a ring of ten", high.tie(0, 9, false), RING);
        due("3: a ring of three", high.tie(4, 6, false), RING);
        due("3: no ring, the same way down", high.tie(9, 0, false), 1);
        due("3: a tie gone", high.untie(5, 4), 1);
        due("3: the ring by 9 is still one", high.tie(0, 9, false), TWICE);
        due("3: no ring without 5 over 4", high.tie(4, 6, false), 1);
        due("3: now that is a ring", high.tie(5, 4, false), RING);
    }

    private static void untie() {
        RouteWatch x = withHouses(3);
        for (int no : NO_HOUSES) {
            due("4: untie(" + no + ", 0)", x.untie(no, 0), BAD);
            due("4: untie(0, " + no + ")", x.untie(0, no), BAD);
            due("4: untie(" + no + ", itself)", x.untie(no, no), BAD);
        }
        due("4: none there", x.untie(0, 1), NOT);
        due("4: with itself", x.untie(1, 1), NOT);
        due("4: a tie", x.tie(0, 1, false), 1);
        due("4: peers", x.tie(1, 2, true), 1);
        due("4: by the customer", x.untie(1, 0), 1);
        due("4: gone", x.untie(0, 1), NOT);
        due("4: the other is there", x.count(1), 1);
        due("4: peers", x.untie(2, 1), 1);
        due("4: count(1)", x.count(1), 0);
        due("4: it may be tied the other way now", x.tie(1, 0, false), 1);
        due("4: say", x.say(0, 0, 1), 0);
        dueWay(x, 0, 0, 0, 0, 1);
        due("4: untie", x.untie(0, 1), 1);
        dueWay(x, 0, 0, 0);
    }

    private static void right() {
        RouteWatch x = withHouses(3);
        for (int no : NO_HOUSES) {
            due("5: right(0, 0, " + no + ")", x.right(0, 0, no), BAD);
        }
        for (int[] no : NO_BLOCKS) {
            due("5: right(" + no[0] + ", " + no[1] + ", 0)", x.right(no[0], no[1], 0), BAD);
        }
        due("5: count(2)", x.count(2), 0);
        due("5: right(0, 0, 2)", x.right(0, 0, 2), NONE);
        due("5: it has it", x.right(0, 0, 2), TWICE);
        due("5: in place of 2", x.right(0, 0, 0), 2);
        due("5: in place of 0", x.right(0, 0, 1), 0);
        due("5: still one", x.count(2), 1);
        due("5: another length", x.right(1, 0, 1), NONE);
        for (int i = 2; i < 12; i++) {
            due("5: right(6, " + (65 - i) + ", 2)", x.right(6, 65 - i, 2), NONE);
        }
        due("5: twelve", x.count(2), 12);
        due("5: the thirteenth", x.right(6, 0, 2), FULL);
        due("5: BAD before FULL", x.right(6, 64, 2), BAD);
        due("5: TWICE before FULL", x.right(6, 63, 2), TWICE);
        due("5: another house with twelve there", x.right(6, 63, 0), 2);
        due("5: free", x.free(1, 0), 1);
        due("5: room again", x.right(6, 0, 2), NONE);
        due("5: the thirteenth", x.right(1, 0, 2), FULL);
    }

    private static void free() {
        RouteWatch x = withHouses(3);
        for (int[] no : NO_BLOCKS) {
            due("6: free(" + no[0] + ", " + no[1] + ")", x.free(no[0], no[1]), BAD);
        }
        due("6: none there", x.free(0, 0), NOT);
        due("6: right", x.right(2, 48, 1), NONE);
        due("6: a wider block", x.free(1, 32), NOT);
        due("6: a longer block", x.free(3, 48), NOT);
        due("6: free(2, 48)", x.free(2, 48), 1);
        due("6: gone", x.free(2, 48), NOT);
        due("6: gone", x.rightful(2, 48), NONE);
        due("6: count(2)", x.count(2), 0);
        due("6: right", x.right(6, 63, 0), NONE);
        due("6: free(6, 63), house 0", x.free(6, 63), 0);
    }

    private static void rightful() {
        RouteWatch x = withHouses(3);
        for (int[] no : NO_BLOCKS) {
            due("7: rightful(" + no[0] + ", " + no[1] + ")", x.rightful(no[0], no[1]), BAD);
        }
        due("7: none", x.rightful(6, 63), NONE);
        due("7: right", x.right(2, 16, 1), NONE);
        due("7: just that", x.rightful(2, 16), 1);
        due("7: its first address", x.rightful(6, 16), 1);
        due("7: its last address", x.rightful(6, 31), 1);
        due("7: one behind", x.rightful(6, 32), NONE);
        due("7: one ahead", x.rightful(6, 15), NONE);
        due("7: a wider block", x.rightful(1, 0), NONE);
        due("7: right to all", x.right(0, 0, 2), NONE);
        due("7: the longest", x.rightful(6, 16), 1);
        due("7: else all", x.rightful(6, 32), 2);
        due("7: a wider block", x.rightful(1, 0), 2);
        due("7: right", x.right(6, 31, 0), NONE);
        due("7: the longest, house 0", x.rightful(6, 31), 0);
        due("7: not the one beside", x.rightful(6, 30), 1);
        due("7: not the one around", x.rightful(5, 30), 1);
        due("7: free", x.free(2, 16), 1);
        due("7: the wider one now", x.rightful(4, 20), 2);
    }

    private static void say() {
        RouteWatch x = withHouses(3);
        for (int no : NO_HOUSES) {
            due("8: say(0, 0, " + no + ")", x.say(0, 0, no), BAD);
        }
        for (int[] no : NO_BLOCKS) {
            due("8: say(" + no[0] + ", " + no[1] + ", 0)", x.say(no[0], no[1], 0), BAD);
        }
        due("8: say(0, 0, 2)", x.say(0, 0, 2), 0);
        due("8: again", x.say(0, 0, 2), TWICE);
        due("8: another house", x.say(0, 0, 0), 1);
        due("8: another block", x.say(1, 0, 2), 2);
        for (int i = 3; i < 16; i++) {
            due("8: say(6, " + (66 - i) + ", 1)", x.say(6, 66 - i, 1), i);
        }
        due("8: the seventeenth", x.say(6, 0, 1), FULL);
        due("8: BAD before FULL", x.say(6, 0, 3), BAD);
        due("8: TWICE before FULL", x.say(6, 63, 1), TWICE);
        due("8: count(3)", x.count(3), 16);
    }

    private static void unsay() {
        RouteWatch x = withHouses(3);
        due("9: none there", x.unsay(0), BAD);
        due("9: say", x.say(0, 0, 0), 0);
        due("9: say", x.say(1, 32, 1), 1);
        due("9: say", x.say(6, 63, 2), 2);
        due("9: say", x.say(6, 63, 1), 3);
        for (int no : new int[] {MIN, -1, 4, 16, MAX}) {
            due("9: unsay(" + no + ")", x.unsay(no), BAD);
        }
        due("9: unsay(1)", x.unsay(1), 1);
        due("9: count(3)", x.count(3), 3);
        due("9: the first stays", x.saying(0, 2), 0);
        due("9: the next has its number", x.saying(1, 0), 6);
        due("9: its first", x.saying(1, 1), 63);
        due("9: its house", x.saying(1, 2), 2);
        due("9: the one behind that", x.saying(2, 2), 1);
        due("9: no fourth", x.saying(3, 2), BAD);
        due("9: nobody says it", x.rounds(1, 32), NOT);
        due("9: unsay the first of two that say it", x.unsay(1), 1);
        due("9: the other says it", x.rounds(6, 63), 0);
        dueWay(x, 6, 63, 1, 1);
        dueWay(x, 6, 63, 2);
        due("9: it may be said again", x.say(6, 63, 2), 2);
        due("9: the last", x.unsay(2), 1);
        due("9: no more", x.unsay(2), BAD);
        RouteWatch full = withHouses(2);
        for (int i = 0; i < 16; i++) {
            due("9: say", full.say(6, i, 1), i);
        }
        due("9: the first of sixteen", full.unsay(0), 1);
        due("9: the last one now", full.saying(14, 1), 15);
        due("9: room again", full.say(0, 0, 0), 15);
        due("9: FULL again", full.say(1, 0, 0), FULL);
    }

    private static void set() {
        RouteWatch x = withHouses(3);
        for (int no : NO_HOUSES) {
            due("10: set(0, " + no + ", true)", x.set(0, no, true), BAD);
            due("10: set(1, " + no + ", false)", x.set(1, no, false), BAD);
        }
        for (int no : new int[] {MIN, -1, 2, MAX}) {
            due("10: set(" + no + ", 0, true)", x.set(no, 0, true), BAD);
        }
        for (int way = 0; way <= 1; way++) {
            due("10: off at first", x.set(way, 1, false), 0);
            due("10: off", x.set(way, 1, true), 0);
            due("10: on", x.set(way, 1, true), 1);
            due("10: another house", x.set(way, 2, false), 0);
            due("10: on", x.set(way, 1, false), 1);
            due("10: off", x.set(way, 1, false), 0);
        }
        due("10: leaks", x.set(0, 0, true), 0);
        due("10: does not refuse for that", x.set(1, 0, false), 0);
        due("10: still leaks", x.set(0, 0, false), 1);
    }

    /** 3 provides for the peers 1 and 2, which leak: each takes from the other what it had, all at once. */
    private static RouteWatch swaying() {
        RouteWatch x = withHouses(6);
        due("tie", x.tie(3, 0, false), 1);
        due("tie", x.tie(3, 1, false), 1);
        due("tie", x.tie(3, 2, false), 1);
        due("tie", x.tie(1, 2, true), 1);
        due("set", x.set(0, 1, true), 0);
        due("set", x.set(0, 2, true), 0);
        due("tie", x.tie(0, 4, false), 1);
        due("say", x.say(1, 0, 0), 0);
        due("say", x.say(2, 0, 4), 1);
        return x;
    }

    private static void rounds() {
        RouteWatch x = tower(10);
        for (int[] no : NO_BLOCKS) {
            due("11: rounds(" + no[0] + ", " + no[1] + ")", x.rounds(no[0], no[1]), BAD);
        }
        due("11: nobody says it", x.rounds(0, 0), NOT);
        due("11: say", x.say(0, 0, 0), 0);
        due("11: another block", x.rounds(1, 0), NOT);
        due("11: up the tower", x.rounds(0, 0), 9);
        due("11: say", x.say(0, 0, 9), 1);
        // 8 has it of its provider 9 in round 1, but of its customer 7, which it takes rather, in round 8.
        due("11: from both ends", x.rounds(0, 0), 8);
        due("11: say", x.say(6, 63, 5), 2);
        due("11: from the middle", x.rounds(6, 63), 5);
        RouteWatch alone = withHouses(2);
        due("11: say", alone.say(0, 0, 1), 0);
        due("11: nothing changes", alone.rounds(0, 0), 0);
        changeOfTheSameLength();
        RouteWatch restless = swaying();
        due("11: RESTLESS", restless.rounds(1, 0), 50);
        due("11: RESTLESS", restless.rounds(2, 0), 50);
    }

    private static void changeOfTheSameLength() {
        // 1 turns in round 3 from its provider 3 to its customer 4, whose way is longer; so 6 turns to 2.
        RouteWatch x = withHouses(7);
        int[][] ties = {{3, 0}, {3, 1}, {3, 2}, {1, 4}, {4, 5}, {5, 0}, {1, 6}, {2, 6}};
        for (int[] tie : ties) {
            due("11: tie", x.tie(tie[0], tie[1], false), 1);
        }
        due("11: say", x.say(5, 62, 0), 0);
        dueWay(x, 5, 62, 1, 1, 4, 5, 0);
        dueWay(x, 5, 62, 6, 6, 2, 3, 0);
        due("11: a change without another length", x.rounds(5, 62), 4);
    }

    private static void restless() {
        RouteWatch x = swaying();
        for (int[] no : NO_BLOCKS) {
            due("12: restless(" + no[0] + ", " + no[1] + ")", x.restless(no[0], no[1]), BAD);
        }
        due("12: nobody says it", x.restless(0, 0), NOT);
        due("12: RESTLESS", x.restless(1, 0), 1);
        due("12: RESTLESS", x.restless(2, 0), 1);
        // 1 and 2 have a way of their own behind round 2, so they do behind round 50 as well.
        dueWay(x, 1, 0, 1, 1, 3, 0);
        dueWay(x, 1, 0, 2, 2, 3, 0);
        // Said by 4 it comes a round later: behind round 50 each has it from the other.
        dueWay(x, 2, 0, 1, 1, 2, 3, 0, 4);
        dueWay(x, 2, 0, 2, 2, 1, 3, 0, 4);
        due("12: one does not leak", x.set(0, 2, false), 1);
        due("12: REST", x.restless(1, 0), 0);
        due("12: REST", x.rounds(1, 0), 3);
        dueWay(x, 1, 0, 1, 1, 3, 0);
        dueWay(x, 1, 0, 2, 2, 1, 3, 0);
    }

    private static void way() {
        RouteWatch x = withHouses(3);
        for (int no : NO_HOUSES) {
            due("13: way(0, 0, " + no + ", 0)", x.way(0, 0, no, 0), BAD);
        }
        for (int[] no : NO_BLOCKS) {
            due("13: way(" + no[0] + ", " + no[1] + ", 0, 0)", x.way(no[0], no[1], 0, 0), BAD);
        }
        due("13: i is -1", x.way(0, 0, 0, -1), BAD);
        due("13: i is MIN", x.way(0, 0, 0, MIN), BAD);
        due("13: nobody says it", x.way(0, 0, 0, 0), NOT);
        due("13: nobody says it, i is high", x.way(0, 0, 0, MAX), NOT);
        RouteWatch high = tower(10);
        due("13: say", high.say(3, 8, 9), 0);
        dueWay(high, 3, 8, 0, 0, 1, 2, 3, 4, 5, 6, 7, 8, 9);
        dueWay(high, 3, 8, 9, 9);
        due("13: it has not so many", high.way(3, 8, 0, 16), NONE);
        due("13: it has not so many", high.way(3, 8, 0, 17), NONE);
        due("13: it has not so many", high.way(3, 8, 0, MAX), NONE);
        due("13: say", high.say(3, 8, 0), 1);
        dueWay(high, 3, 8, 0, 0);
        // A house takes it from its customer below, however long, but 9 says it itself.
        dueWay(high, 3, 8, 8, 8, 7, 6, 5, 4, 3, 2, 1, 0);
        dueWay(high, 3, 8, 9, 9);
        RouteWatch apart = withHouses(3);
        due("13: say", apart.say(0, 0, 1), 0);
        dueWay(apart, 0, 0, 0);
        dueWay(apart, 0, 0, 1, 1);
    }

    private static void wayOrder() {
        // 0 could take it of its customer 1 (long), its peer 2, or its provider 3 (both short).
        RouteWatch x = withHouses(8);
        due("13: tie", x.tie(0, 1, false), 1);
        due("13: tie", x.tie(1, 7, false), 1);
        due("13: tie", x.tie(7, 6, false), 1);
        due("13: tie", x.tie(0, 2, true), 1);
        due("13: tie", x.tie(2, 6, false), 1);
        due("13: tie", x.tie(3, 0, false), 1);
        due("13: tie", x.tie(3, 6, false), 1);
        due("13: say", x.say(4, 4, 6), 0);
        dueWay(x, 4, 4, 0, 0, 1, 7, 6);
        due("13: 2 has it of its customer, passes on to its peer", x.untie(1, 7), 1);
        dueWay(x, 4, 4, 0, 0, 2, 6);
        // 0 had it of a peer, so it passes it on to its customer 1 alone, not to its provider.
        dueWay(x, 4, 4, 1, 1, 0, 2, 6);
        due("13: untie", x.untie(2, 6), 1);
        dueWay(x, 4, 4, 0, 0, 3, 6);
        // What 0 has of its provider it does not pass on to its peer 2.
        dueWay(x, 4, 4, 2);
        due("13: but if it leaks", x.set(0, 0, true), 0);
        dueWay(x, 4, 4, 2, 2, 0, 3, 6);
        due("13: a shorter one of the same kind", x.tie(4, 0, false), 1);
        due("13: tie", x.tie(5, 4, false), 1);
        due("13: tie", x.tie(5, 6, false), 1);
        dueWay(x, 4, 4, 4, 4, 0, 3, 6);
        dueWay(x, 4, 4, 0, 0, 3, 6);
        RouteWatch least = withHouses(5);
        for (int t = 1; t <= 3; t++) {
            due("13: tie", least.tie(4 - t, 0, false), 1);
            due("13: tie", least.tie(4 - t, 4, false), 1);
        }
        due("13: say", least.say(0, 0, 4), 0);
        dueWay(least, 0, 0, 0, 0, 1, 4);
        due("13: untie", least.untie(1, 4), 1);
        dueWay(least, 0, 0, 0, 0, 2, 4);
        shorterOfHigherNumber();
        passedOnToPeers();
        notByWayOfItself();
    }

    private static void notByWayOfItself() {
        // 0 leaks back to 1 what it had of 1; 1 would rather take it of its customer, but is on that way.
        RouteWatch x = tower(3);
        due("13: leaks", x.set(0, 0, true), 0);
        due("13: say", x.say(0, 0, 2), 0);
        dueWay(x, 0, 0, 0, 0, 1, 2);
        dueWay(x, 0, 0, 1, 1, 2);
        due("13: rounds", x.rounds(0, 0), 2);
        due("13: REST", x.restless(0, 0), 0);
    }

    private static void shorterOfHigherNumber() {
        RouteWatch x = withHouses(5);
        due("13: tie", x.tie(0, 1, true), 1);
        due("13: tie", x.tie(0, 2, true), 1);
        due("13: tie", x.tie(1, 3, false), 1);
        due("13: tie", x.tie(3, 4, false), 1);
        due("13: tie", x.tie(2, 4, false), 1);
        due("13: say", x.say(0, 0, 4), 0);
        dueWay(x, 0, 0, 0, 0, 2, 4);
        // It changes from none to [0 2 4] in round 2, and 1 comes in round 2, too late to be better.
        due("13: rounds", x.rounds(0, 0), 2);
    }

    private static void passedOnToPeers() {
        RouteWatch x = withHouses(4);
        due("13: tie", x.tie(0, 1, true), 1);
        due("13: tie", x.tie(1, 2, true), 1);
        due("13: tie", x.tie(3, 2, false), 1);
        due("13: say", x.say(0, 0, 0), 0);
        // One that says it passes it on to peers; they don't.
        dueWay(x, 0, 0, 1, 1, 0);
        dueWay(x, 0, 0, 2);
        due("13: 1 leaks", x.set(0, 1, true), 0);
        dueWay(x, 0, 0, 2, 2, 1, 0);
        dueWay(x, 0, 0, 3);
        due("13: 2 leaks", x.set(0, 2, true), 0);
        dueWay(x, 0, 0, 3, 3, 2, 1, 0);
        due("13: one that says it passes it on to a provider", x.say(0, 0, 2), 1);
        due("13: 2 leaks no more", x.set(0, 2, false), 1);
        dueWay(x, 0, 0, 3, 3, 2);
        dueWay(x, 0, 0, 1, 1, 0);
    }

    private static void wayRefused() {
        // 1 says falsely what 3 has the right to; 0 is nearer to 1.
        RouteWatch x = withHouses(4);
        due("13: tie", x.tie(1, 0, false), 1);
        due("13: tie", x.tie(2, 0, false), 1);
        due("13: tie", x.tie(2, 3, false), 1);
        due("13: say", x.say(2, 32, 1), 0);
        due("13: say", x.say(2, 32, 3), 1);
        due("13: 0 refuses", x.set(1, 0, true), 0);
        // None is RIGHTFUL, so none is refused.
        dueWay(x, 2, 32, 0, 0, 1);
        due("13: right to a wider block", x.right(1, 32, 3), NONE);
        dueWay(x, 2, 32, 0, 0, 2, 3);
        due("13: 0 does not refuse", x.set(1, 0, false), 1);
        dueWay(x, 2, 32, 0, 0, 1);
        due("13: 0 refuses", x.set(1, 0, true), 0);
        due("13: the right to a longer block is of no weight", x.right(3, 32, 1), NONE);
        dueWay(x, 2, 32, 0, 0, 2, 3);
        due("13: the longest block with a right decides", x.right(2, 32, 2), NONE);
        dueWay(x, 2, 32, 0);
        due("13: one that says it itself never changes", x.set(1, 1, true), 0);
        dueWay(x, 2, 32, 1, 1);
    }

    private static void broken() {
        RouteWatch x = withHouses(6);
        for (int no : new int[] {MIN, -1, 6, 10, MAX}) {
            due("14: broken(0, 0, " + no + ")", x.broken(0, 0, no), BAD);
        }
        for (int[] no : NO_BLOCKS) {
            due("14: broken(" + no[0] + ", " + no[1] + ", 0)", x.broken(no[0], no[1], 0), BAD);
        }
        due("14: nobody says it", x.broken(0, 0, 0), NOT);
        // 0 says it; 1 is its peer, 2 a provider of 1, 3 a peer of 2, 4 a provider of 3; 5 is 4's customer.
        due("14: tie", x.tie(0, 1, true), 1);
        due("14: tie", x.tie(2, 1, false), 1);
        due("14: tie", x.tie(2, 3, true), 1);
        due("14: tie", x.tie(4, 3, false), 1);
        due("14: tie", x.tie(4, 5, false), 1);
        due("14: say", x.say(0, 0, 0), 0);
        due("14: 1 leaks", x.set(0, 1, true), 0);
        due("14: the way has one house", x.broken(0, 0, 0), NONE);
        due("14: the way has two", x.broken(0, 0, 1), NONE);
        due("14: of a peer on to a provider", x.broken(0, 0, 2), 1);
        // 2 had it of its customer 1, so it passed it on to its peer 3 as it should.
        due("14: farther on", x.broken(0, 0, 3), 1);
        due("14: no way", x.broken(0, 0, 4), NONE);
        due("14: 3 leaks", x.set(0, 3, true), 0);
        dueWay(x, 0, 0, 5, 5, 4, 3, 2, 1, 0);
        due("14: nearest to the end", x.broken(0, 0, 5), 1);
        due("14: nearest to the end", x.broken(0, 0, 4), 1);
        due("14: 0 is a customer of 1", x.untie(0, 1), 1);
        due("14: 0 is a customer of 1", x.tie(1, 0, false), 1);
        due("14: of a peer on to a provider", x.broken(0, 0, 5), 3);
        due("14: 3 has it of a peer", x.broken(0, 0, 3), NONE);
        RouteWatch down = tower(3);
        due("14: tie", down.untie(2, 1), 1);
        due("14: 2 is a peer of 1", down.tie(2, 1, true), 1);
        due("14: say", down.say(0, 0, 2), 0);
        dueWay(down, 0, 0, 0, 0, 1, 2);
        due("14: of a peer on to a customer", down.broken(0, 0, 0), NONE);
        brokenAmongPeers();
    }

    private static void brokenAmongPeers() {
        RouteWatch x = withHouses(3);
        due("14: tie", x.tie(0, 1, true), 1);
        due("14: tie", x.tie(1, 2, true), 1);
        due("14: say", x.say(0, 0, 0), 0);
        due("14: leaks", x.set(0, 1, true), 0);
        due("14: of a peer on to a peer", x.broken(0, 0, 2), 1);
        due("14: untie", x.untie(0, 1), 1);
        due("14: 0 provides for 1", x.tie(0, 1, false), 1);
        due("14: of a provider on to a peer", x.broken(0, 0, 2), 1);
        due("14: untie", x.untie(1, 2), 1);
        due("14: 2 provides for 1", x.tie(2, 1, false), 1);
        due("14: of a provider on to a provider", x.broken(0, 0, 2), 1);
        due("14: untie", x.untie(1, 2), 1);
        due("14: 1 provides for 2", x.tie(1, 2, false), 1);
        due("14: of a provider on to a customer", x.broken(0, 0, 2), NONE);
    }

    private static void goes() {
        RouteWatch x = tower(3);
        for (int no : NO_HOUSES) {
            due("15: goes(" + no + ", 0)", x.goes(no, 0), BAD);
        }
        for (int no : new int[] {MIN, -1, 64, MAX}) {
            due("15: goes(0, " + no + ")", x.goes(0, no), BAD);
        }
        due("15: nobody says anything", x.goes(0, 0), LOST);
        due("15: say", x.say(1, 32, 2), 0);
        due("15: it ends where it is said", x.goes(0, 63), 2);
        due("15: its first address", x.goes(0, 32), 2);
        due("15: one ahead", x.goes(0, 31), LOST);
        due("15: who says it", x.goes(2, 63), 2);
        due("15: say a longer block", x.say(6, 63, 0), 1);
        due("15: the longest", x.goes(2, 63), 0);
        due("15: not for another address", x.goes(2, 62), 2);
        due("15: say all", x.say(0, 0, 1), 2);
        due("15: all", x.goes(0, 0), 1);
        due("15: all", x.goes(2, 0), 1);
        RouteWatch high = tower(10);
        due("15: say", high.say(0, 0, 9), 0);
        due("15: nine hops", high.goes(0, 63), 9);
        due("15: say", high.say(6, 0, 0), 1);
        due("15: nine hops down", high.goes(9, 0), 0);
        goesByOtherBlocksOnTheWay();
        goesInARound();
    }

    private static void goesByOtherBlocksOnTheWay() {
        // 1 provides for 0 and 2; 1 refuses what 2 says falsely, 0 takes a wider block by way of 1.
        RouteWatch x = withHouses(4);
        due("15: tie", x.tie(1, 0, false), 1);
        due("15: tie", x.tie(1, 2, true), 1);
        due("15: tie", x.tie(1, 3, false), 1);
        due("15: right", x.right(0, 0, 3), NONE);
        due("15: say", x.say(0, 0, 3), 0);
        due("15: say", x.say(3, 0, 2), 1);
        due("15: 0 refuses, so it has the wider way alone", x.set(1, 0, true), 0);
        dueWay(x, 3, 0, 0);
        dueWay(x, 0, 0, 0, 0, 1, 3);
        due("15: but 1 sends it on to 2", x.goes(0, 5), 2);
        due("15: another address", x.goes(0, 8), 3);
        due("15: 1 refuses, too", x.set(1, 1, true), 0);
        due("15: as 0 thought", x.goes(0, 5), 3);
        due("15: 2 says the block, so it ends there", x.goes(2, 5), 2);
        due("15: 2 has no other way to 3", x.goes(2, 8), 3);
    }

    private static void goesInARound() {
        RouteWatch x = swaying();
        due("15: RESTLESS, each by its provider", x.goes(1, 31), 0);
        due("15: RESTLESS, each to the other", x.goes(1, 0), ROUND);
        due("15: RESTLESS, each to the other", x.goes(2, 15), ROUND);
        due("15: the provider knows", x.goes(3, 15), 4);
        due("15: no tie", x.goes(5, 0), LOST);
        due("15: tie", x.tie(1, 5, false), 1);
        due("15: into the ring", x.goes(5, 0), ROUND);
        due("15: right", x.right(0, 0, 5), NONE);
        due("16: neither LOST nor ROUND is MISLED", x.misled(0), 0b011001);
    }

    private static void misled() {
        RouteWatch x = tower(4);
        for (int no : new int[] {MIN, -1, 64, MAX}) {
            due("16: misled(" + no + ")", x.misled(no), BAD);
        }
        due("16: say", x.say(1, 0, 3), 0);
        due("16: none is RIGHTFUL", x.misled(0), 0);
        due("16: right", x.right(0, 0, 0), NONE);
        due("16: all, with the one that says it", x.misled(0), 0b1111);
        due("16: the last address", x.misled(31), 0b1111);
        due("16: LOST is not MISLED", x.misled(32), 0);
        due("16: say", x.say(1, 0, 0), 1);
        due("16: those that take it from below", x.misled(31), 0b1000);
        due("16: right to one address", x.right(6, 31, 3), NONE);
        due("16: by the RIGHT to the one address", x.misled(31), 0b0111);
        due("16: the one beside", x.misled(30), 0b1000);
        due("16: right", x.right(6, 30, 2), NONE);
        due("16: the RIGHTFUL one does not say it", x.misled(30), 0b1111);
    }

    private static void saying() {
        RouteWatch x = tower(4);
        due("17: none there", x.saying(0, 0), BAD);
        due("17: say", x.say(2, 48, 3), 0);
        due("17: say", x.say(0, 0, 1), 1);
        due("17: say", x.say(6, 63, 0), 2);
        for (int no : new int[] {MIN, -1, 3, 16, MAX}) {
            due("17: saying(" + no + ", 0)", x.saying(no, 0), BAD);
        }
        for (int no : new int[] {MIN, -1, 6, MAX}) {
            due("17: saying(0, " + no + ")", x.saying(0, no), BAD);
        }
        int[][] want = {{2, 48, 3, 0, 0, 0b0111}, {0, 0, 1, 0, 0, 0b1101}, {6, 63, 0, 0, 0, 0b1110}};
        dueSayings(x, want);
        due("17: right to a wider block", x.right(1, 32, 1), NONE);
        want[0][3] = want[0][4] = want[2][3] = want[2][4] = 1;
        dueSayings(x, want);
        due("17: right to just that block", x.right(2, 48, 2), NONE);
        want[0][4] = 0;
        dueSayings(x, want);
        due("17: the RIGHTFUL one says it", x.right(6, 63, 0), NONE);
        want[2][3] = want[2][4] = 0;
        dueSayings(x, want);
        due("17: a second one says it", x.say(6, 63, 2), 3);
        due("17: who SEES the first", x.saying(2, 5), 0b0010);
        due("17: who SEES the second", x.saying(3, 5), 0b1000);
        due("17: 3 refuses", x.set(1, 3, true), 0);
        due("17: it has no other way", x.saying(3, 5), 0);
    }

    private static void dueSayings(RouteWatch x, int[][] want) {
        for (int k = 0; k < want.length; k++) {
            for (int what = 0; what <= 5; what++) {
                due("17: saying(" + k + ", " + what + ")", x.saying(k, what), want[k][what]);
            }
        }
    }

    private static void watchers() {
        // Three falsehoods, said by 0, 1 and 2, seen by {3 4}, {4 5} and {5 3}; no one house sees all.
        RouteWatch x = withHouses(8);
        int[][] ties = {{3, 0}, {4, 0}, {4, 1}, {5, 1}, {5, 2}, {3, 2}};
        for (int[] tie : ties) {
            due("18: tie", x.tie(tie[0], tie[1], false), 1);
        }
        due("18: nothing said", x.watchers(), 0);
        for (int k = 0; k < 3; k++) {
            due("18: say", x.say(2, 16 * k, k), k);
        }
        due("18: nothing false", x.watchers(), 0);
        for (int k = 0; k < 3; k++) {
            due("18: right", x.right(2, 16 * k, 7), NONE);
        }
        // What 0 says goes up to 3 and 4 and down from there to 2 and 1; so 3 and 4 see it, and 1 and 2.
        due("18: SEES", x.saying(0, 5), 0b011110);
        due("18: SEES", x.saying(1, 5), 0b110101);
        due("18: SEES", x.saying(2, 5), 0b101011);
        due("18: two are the fewest, the least number of these", x.watchers(), 0b000011);
        for (int k = 0; k < 3; k++) {
            due("18: refuses", x.set(1, k, true), 0);
        }
        due("18: SEES", x.saying(0, 5), 0b011000);
        due("18: two are the fewest, the least number of these", x.watchers(), 0b011000);
        due("18: one that nobody SEES", x.say(6, 0, 6), 3);
        due("18: it is FALSE", x.saying(3, 3), 1);
        due("18: nobody SEES it", x.saying(3, 5), 0);
        due("18: it needs no watcher", x.watchers(), 0b011000);
        due("18: tie", x.tie(5, 6, false), 1);
        // Now 5 alone sees what 6 says, and 2 and 1 refuse.
        due("18: SEES", x.saying(3, 5), 0b100000);
        due("18: 3 with 5", x.watchers(), 0b101000);
        due("18: what is not FALSE needs no watcher", x.right(6, 0, 6), NONE);
        due("18: as before", x.watchers(), 0b011000);
        due("18: unsay", x.unsay(1), 1);
        due("18: 3 sees both that are left", x.watchers(), 0b001000);
        fewestWatchers();
    }

    private static void fewestWatchers() {
        // 0 sees what 3 says, 1 what 4 says, 2 both; all three refuse nothing, but 3 and 4 do.
        RouteWatch x = withHouses(6);
        int[][] ties = {{0, 3}, {2, 3}, {1, 4}, {2, 4}};
        for (int[] tie : ties) {
            due("18: tie", x.tie(tie[0], tie[1], false), 1);
        }
        due("18: right", x.right(0, 0, 5), NONE);
        due("18: say", x.say(1, 0, 3), 0);
        due("18: say", x.say(1, 32, 4), 1);
        due("18: refuses", x.set(1, 3, true), 0);
        due("18: refuses", x.set(1, 4, true), 0);
        due("18: SEES", x.saying(0, 5), 0b000101);
        due("18: SEES", x.saying(1, 5), 0b000110);
        due("18: one of a higher number rather than two", x.watchers(), 0b000100);
        due("18: unsay", x.unsay(0), 1);
        due("18: the least number", x.watchers(), 0b000010);
        due("18: unsay", x.unsay(0), 1);
        due("18: none is wanted", x.watchers(), 0);
    }

    private static void cure() {
        RouteWatch x = withHouses(5);
        for (int no : new int[] {MIN, -1, 64, MAX}) {
            due("19: cure(" + no + ")", x.cure(no), BAD);
        }
        // 4 provides for all; 0 has the right, 1 says it falsely.
        for (int h = 0; h < 4; h++) {
            due("19: tie", x.tie(4, 3 - h, false), 1);
        }
        due("19: right", x.right(1, 0, 0), NONE);
        due("19: say", x.say(2, 0, 1), 0);
        due("19: MISLED", x.misled(0), 0b11111);
        due("19: those behind 4 follow it", x.cure(0), 0b10000);
        due("19: not false there", x.cure(16), 0);
        due("19: no RIGHT there", x.cure(32), 0);
        due("19: 4 refuses", x.set(1, 4, true), 0);
        due("19: it is cured but for 1, which says it", x.cure(0), 0);
        due("19: MISLED", x.misled(0), 0b00010);
        due("19: 4 does not refuse", x.set(1, 4, false), 1);
        due("19: peers", x.tie(1, 3, true), 1);
        due("19: 3 had it of 1, so it must refuse, too", x.cure(0), 0b11000);
        due("19: 3 refuses", x.set(1, 3, true), 0);
        due("19: then 4 is what is wanting", x.cure(0), 0b10000);
        due("19: 3 does not refuse", x.set(1, 3, false), 1);
        due("19: 3 says another block with the address", x.say(0, 0, 3), 1);
        // 3 is let off now; behind a refusing 4 all others go to 3 itself, by its wider block.
        due("19: nor is 0", x.cure(0), NONE);
        due("19: 0 says it", x.say(1, 0, 0), 2);
        due("19: 0 says it, 3 is let off", x.cure(0), 0b10000);
        leastOfTheFewest();
        refusalOfOneThatSaysItself();
        letOff();
    }

    private static void refusalOfOneThatSaysItself() {
        // 3 has the wide block of 0, and by way of 2 the half that 1 lies about; 2 lies about the wide one.
        RouteWatch x = withHouses(4);
        int[][] ties = {{2, 1}, {3, 2}, {3, 0}};
        for (int[] tie : ties) {
            due("19: tie", x.tie(tie[0], tie[1], false), 1);
        }
        due("19: right", x.right(0, 0, 0), NONE);
        due("19: say", x.say(0, 0, 0), 0);
        due("19: say", x.say(0, 0, 2), 1);
        due("19: say", x.say(1, 0, 1), 2);
        due("19: MISLED", x.misled(0), 0b1111);
        due("19: 2 or 3, the least number", x.cure(0), 0b0100);
        due("19: 1 has the wide block of its provider 2", x.misled(32), 0b0110);
        due("19: 2 says it itself, 1 says nothing there", x.cure(32), 0b0010);
    }

    private static void letOff() {
        // 1 lies about one address; who says any block with it is let off, all others are not.
        for (int length = 0; length <= 6; length++) {
            RouteWatch x = withHouses(3);
            due("19: tie", x.tie(0, 1, false), 1);
            due("19: right", x.right(0, 0, 2), NONE);
            due("19: say", x.say(6, 63, 1), 0);
            due("19: 0 says nothing", x.cure(63), 0b001);
            due("19: a block beside", x.say(6, 62, 0), 1);
            due("19: 0 is not let off", x.cure(63), 0b001);
            due("19: say", x.say(length, 64 - (64 >> length), 0), 2);
            due("19: 0 is let off by LENGTH " + length, x.cure(63), 0);
        }
    }

    private static void leastOfTheFewest() {
        // 4 takes it from 3, that from 2, that from 1, which lies: any of 2, 3, 4 cures but for those ahead.
        RouteWatch x = withHouses(6);
        due("19: tie", x.tie(2, 1, false), 1);
        due("19: tie", x.tie(3, 2, false), 1);
        due("19: tie", x.tie(4, 3, false), 1);
        due("19: right", x.right(0, 0, 0), NONE);
        due("19: say", x.say(0, 0, 1), 0);
        due("19: the one nearest to it", x.cure(63), 0b00100);
        due("19: say", x.say(6, 63, 2), 1);
        due("19: 3 has it of 2, or of 1 by way of 2; 1 is let off, too", x.cure(63), 0b01000);
        due("19: another address", x.cure(62), 0b00100);
        due("19: tie", x.tie(5, 1, false), 1);
        due("19: 5 has both of 1", x.cure(62), 0b100100);
    }

    private static void cureNone() {
        // 1 has the right to a wide block and says it; the right to one address is 2's, who is silent.
        RouteWatch x = tower(3);
        due("19: right", x.right(0, 0, 1), NONE);
        due("19: say", x.say(0, 0, 1), 0);
        due("19: right", x.right(6, 9, 2), NONE);
        due("19: MISLED", x.misled(9), 0b111);
        due("19: nobody can refuse what is rightly said", x.cure(9), NONE);
        due("19: nobody is misled there", x.cure(8), 0);
        due("19: a false one besides", x.say(6, 9, 0), 1);
        due("19: 2 would go by the wide block then", x.cure(9), NONE);
        due("19: 2 says it", x.say(6, 9, 2), 2);
        due("19: nobody but who says a block is MISLED", x.cure(9), 0);
    }

    private static void halves() {
        RouteWatch x = tower(4);
        due("20: none there", x.halves(0), BAD);
        due("20: say", x.say(2, 16, 3), 0);
        for (int no : new int[] {MIN, -1, 1, MAX}) {
            due("20: halves(" + no + ")", x.halves(no), BAD);
        }
        due("20: it is not FALSE", x.halves(0), NOT);
        due("20: right", x.right(0, 0, 0), NONE);
        due("20: all are MISLED", x.misled(16), 0b1111);
        due("20: all come back", x.halves(0), 0);
        due("20: nothing was said", x.count(3), 1);
        due("20: nothing has changed", x.misled(16), 0b1111);
        due("20: nothing has changed", x.rounds(3, 16), NOT);
        due("20: say one address", x.say(6, 16, 3), 1);
        due("20: one address has no halves", x.halves(1), NOT);
        due("20: it is longer than the halves", x.halves(0), 4);
        due("20: unsay", x.unsay(1), 1);
        due("20: say two addresses", x.say(5, 18, 3), 1);
        due("20: that is not the first address", x.halves(0), 0);
        due("20: its halves have one address", x.halves(1), 0);
        due("20: untie", x.untie(2, 1), 1);
        due("20: two are out of reach", x.halves(0), 2);
        due("20: 3 says the half, too", x.say(3, 16, 3), 2);
        due("20: two still", x.halves(0), 2);
        due("20: tie", x.tie(2, 1, false), 1);
        due("20: the one that says the half itself", x.halves(0), 1);
        due("20: right to the first address", x.right(6, 16, 2), NONE);
        due("20: by the RIGHT to the first address", x.halves(0), 4);
        due("20: the RIGHTFUL one says a half", x.say(3, 16, 0), 3);
        due("20: as before", x.halves(0), 4);
        due("20: and says it still", x.saying(3, 2), 0);
        due("20: and says it still", x.way(3, 16, 0, 0), 0);
        due("20: right", x.right(6, 0, 1), NONE);
        due("20: say the first address of all", x.say(6, 0, 2), 4);
        due("20: it is FALSE", x.saying(4, 3), 1);
        due("20: one address has no halves", x.halves(4), NOT);
        halvesRefusedAndFull();
    }

    private static void halvesRefusedAndFull() {
        // The half is the right of 2: so who refuses does not take it of 0, who is RIGHTFUL for the whole.
        RouteWatch x = tower(3);
        due("20: right", x.right(0, 0, 0), NONE);
        due("20: right", x.right(1, 0, 2), NONE);
        due("20: right", x.right(6, 0, 0), NONE);
        due("20: say", x.say(0, 0, 2), 0);
        due("20: all come back", x.halves(0), 0);
        due("20: 1 refuses", x.set(1, 1, true), 0);
        due("20: 1 refuses the half, so 2 does not hear of it", x.halves(0), 1);
        for (int i = 1; i < 16; i++) {
            due("20: say", x.say(6, 64 - i, 2), i);
        }
        due("20: it works with sixteen, too", x.halves(0), 1);
        due("20: sixteen still", x.count(3), 16);
    }

    private static void count() {
        RouteWatch x = withHouses(4);
        for (int no : new int[] {MIN, -1, 5, MAX}) {
            due("21: count(" + no + ")", x.count(no), BAD);
        }
        due("21: tie", x.tie(0, 1, false), 1);
        due("21: tie", x.tie(0, 2, true), 1);
        due("21: tie", x.tie(2, 3, true), 1);
        due("21: untie", x.untie(3, 2), 1);
        due("21: right", x.right(1, 0, 3), NONE);
        due("21: say", x.say(1, 0, 3), 0);
        due("21: say", x.say(1, 0, 2), 1);
        due("21: say", x.say(2, 16, 1), 2);
        due("21: say", x.say(0, 0, 1), 3);
        int[] want = {4, 2, 1, 4, 2};
        for (int what = 0; what <= 4; what++) {
            due("21: count(" + what + ")", x.count(what), want[what]);
        }
        due("21: right", x.right(0, 0, 0), NONE);
        due("21: another is FALSE", x.count(4), 3);
        due("21: right", x.right(0, 0, 1), 0);
        due("21: it is not", x.count(4), 2);
        due("21: free", x.free(1, 0), 3);
        due("21: 2 and 3 are", x.count(4), 2);
        due("21: right", x.right(1, 0, 1), NONE);
        due("21: unsay", x.unsay(0), 1);
        due("21: one is", x.count(4), 1);
    }

    private static void refusedChangesNothing() {
        RouteWatch x = tower(3);
        due("right", x.right(1, 0, 0), NONE);
        due("say", x.say(1, 0, 0), 0);
        due("TWICE", x.tie(0, 1, true), TWICE);
        due("RING", x.tie(0, 2, false), RING);
        due("TWICE", x.right(1, 0, 0), TWICE);
        due("BAD", x.right(1, 1, 1), BAD);
        due("NOT", x.free(0, 0), NOT);
        due("TWICE", x.say(1, 0, 0), TWICE);
        due("BAD", x.unsay(1), BAD);
        due("BAD", x.set(2, 0, true), BAD);
        int[] want = {3, 2, 1, 1, 0};
        for (int what = 0; what <= 4; what++) {
            due("count(" + what + ") behind refusals", x.count(what), want[what]);
        }
        dueWay(x, 1, 0, 2, 2, 1, 0);
    }
}
