import java.util.ArrayList;
import java.util.List;
import java.util.Random;

/** Long runs of chance calls, the same each time, on RouteWatch and on the Model beside it. */
public final class ModelTest {
    private static final int RUNS = 220, CALLS = 500;

    private final Random chance;
    private final RouteWatch x = new RouteWatch();
    private final Model model = new Model();
    private final Check check;
    private final int run;
    private final List<String> calls = new ArrayList<>();
    // Runs differ in how wide their blocks are spread, so that some have many on the same addresses.
    private final int spread;
    private final int leaks;
    private final int peers;
    private int restless = 0;
    private int inRound = 0;
    private int uncured = 0;

    private ModelTest(int run, Check check) {
        this.run = run;
        this.check = check;
        chance = new Random(7919L * run + 13);
        spread = 1 << chance.nextInt(7);
        leaks = chance.nextInt(11);
        peers = 1 + chance.nextInt(7);
    }

    public static void main(String[] args) {
        Check check = new Check();
        int runs = args.length > 1 ? Integer.parseInt(args[1]) : RUNS;
        int restless = 0;
        int inRound = 0;
        int uncured = 0;
        for (int run = 0; run < runs && !check.isWrong(); run++) {
            ModelTest test = new ModelTest(run, check);
            test.go();
            restless += test.restless;
            inRound += test.inRound;
            uncured += test.uncured;
        }
        // Otherwise the runs would not reach what they are for.
        check.holds("some blocks are RESTLESS", restless > 10);
        check.holds("some addresses go in a ROUND", inRound > 0);
        check.holds("some addresses have no CURE", uncured > 20);
        System.out.println("RESTLESS " + restless + ", ROUND " + inRound + ", no CURE " + uncured);
        check.end("ModelTest");
    }

    private void go() {
        int built = 2 + chance.nextInt(9);
        for (int h = 0; h < built; h++) {
            due("house()", x.house(), model.house());
        }
        for (int i = 0; i < 3 * built; i++) {
            tie();
        }
        for (int i = 4 * built; i < CALLS && !check.isWrong(); i++) {
            call(chance.nextInt(100));
        }
        if (check.isWrong()) {
            System.out.println("run " + run + ": " + String.join("; ", calls));
        }
    }

    private void due(String call, int got, int want) {
        calls.add(call);
        check.due("run " + run + ", call " + calls.size() + ": " + call, got, want);
    }

    /** Mostly one of them, at times one just out of bounds. */
    private int near(int bound) {
        return chance.nextInt(40) == 0 ? (chance.nextBoolean() ? -1 : bound) : chance.nextInt(Math.max(1, bound));
    }

    private int house() {
        return near(model.count(0));
    }

    private int length() {
        return near(7);
    }

    private int first(int length) {
        int address = near(spread);
        boolean odd = length < 0 || length > 6 || address < 0 || chance.nextInt(40) == 0;
        return odd ? address : address >> (6 - length) << (6 - length);
    }

    private void tie() {
        int p = house();
        int c = house();
        boolean peer = chance.nextInt(10) < peers;
        due("tie(" + p + ", " + c + ", " + peer + ")", x.tie(p, c, peer), model.tie(p, c, peer));
    }

    private void call(int which) {
        if (which < 45) {
            change(which);
        } else if (which < 90) {
            askBlock(which);
        } else {
            askAll(which);
        }
    }

    private void change(int which) {
        int h = house();
        int length = length();
        int first = first(length);
        String block = "(" + length + ", " + first;
        if (which == 0) {
            due("house()", x.house(), model.house());
        } else if (which < 6) {
            tie();
        } else if (which < 10) {
            int b = house();
            due("untie(" + h + ", " + b + ")", x.untie(h, b), model.untie(h, b));
        } else if (which < 17) {
            due("right" + block + ", " + h + ")", x.right(length, first, h), model.right(length, first, h));
        } else if (which < 20) {
            due("free" + block + ")", x.free(length, first), model.free(length, first));
        } else if (which < 32) {
            due("say" + block + ", " + h + ")", x.say(length, first, h), model.say(length, first, h));
        } else if (which < 36) {
            int k = near(model.count(3));
            due("unsay(" + k + ")", x.unsay(k), model.unsay(k));
        } else {
            int way = near(2);
            boolean on = chance.nextInt(10) < (way == 0 ? leaks : 3);
            due("set(" + way + ", " + h + ", " + on + ")", x.set(way, h, on), model.set(way, h, on));
        }
    }

    private void askBlock(int which) {
        int h = house();
        int length = length();
        int first = first(length);
        int k = near(model.count(3));
        if (chance.nextInt(4) > 0 && model.saying(k, 0) >= 0) {
            length = model.saying(k, 0);
            first = model.saying(k, 1);
        }
        String block = "(" + length + ", " + first;
        if (which < 50) {
            due("rightful" + block + ")", x.rightful(length, first), model.rightful(length, first));
        } else if (which < 55) {
            due("rounds" + block + ")", x.rounds(length, first), model.rounds(length, first));
        } else if (which < 60) {
            int want = model.restless(length, first);
            restless += want == 1 ? 1 : 0;
            due("restless" + block + ")", x.restless(length, first), want);
        } else if (which < 70) {
            int i = near(5);
            due("way" + block + ", " + h + ", " + i + ")", x.way(length, first, h, i), model.way(length, first, h, i));
        } else if (which < 75) {
            due("broken" + block + ", " + h + ")", x.broken(length, first, h), model.broken(length, first, h));
        } else if (which < 83) {
            int what = near(6);
            due("saying(" + k + ", " + what + ")", x.saying(k, what), model.saying(k, what));
        } else {
            due("halves(" + k + ")", x.halves(k), model.halves(k));
        }
    }

    private void askAll(int which) {
        int address = near(spread);
        if (which < 93) {
            int h = house();
            int want = model.goes(h, address);
            inRound += want == Model.ROUND ? 1 : 0;
            due("goes(" + h + ", " + address + ")", x.goes(h, address), want);
        } else if (which < 96) {
            due("misled(" + address + ")", x.misled(address), model.misled(address));
        } else if (which < 97) {
            due("watchers()", x.watchers(), model.watchers());
        } else if (which < 98) {
            int what = near(5);
            due("count(" + what + ")", x.count(what), model.count(what));
        } else if (chance.nextInt(3) == 0) {
            int want = model.cure(address);
            uncured += want == Model.NONE ? 1 : 0;
            due("cure(" + address + ")", x.cure(address), want);
        }
    }
}
