import java.util.ArrayList;
import java.util.List;

/**
 * Asks an object for all that it holds, taking it apart on the way: two objects that answer alike
 * hold the same. It makes fewer calls than an object is promised to bear.
 */
final class Probe {
    private final RouteWatch x;
    private final List<Integer> answers = new ArrayList<>();

    private Probe(RouteWatch x) {
        this.x = x;
    }

    static List<Integer> answers(RouteWatch x) {
        Probe probe = new Probe(x);
        probe.askSayings();
        probe.takeRights();
        probe.takeLeaksAndRefusals();
        probe.sayAnew();
        probe.takeTies();
        return probe.answers;
    }

    private void askSayings() {
        for (int what = 0; what <= 4; what++) {
            answers.add(x.count(what));
        }
        for (int k = 0; k < 16; k++) {
            for (int what : new int[] {0, 1, 2, 5}) {
                answers.add(x.saying(k, what));
            }
        }
        answers.add(x.watchers());
        answers.add(x.misled(0));
        answers.add(x.misled(63));
        answers.add(x.cure(0));
    }

    private void takeRights() {
        for (int length = 0; length <= 6; length++) {
            for (int first = 0; first < 64; first += 64 >> length) {
                answers.add(x.free(length, first));
            }
        }
    }

    private void takeLeaksAndRefusals() {
        for (int house = 0; house < 10; house++) {
            answers.add(x.set(0, house, false));
            answers.add(x.set(1, house, false));
        }
    }

    /** Who has a way to whom, and by whom, tells of each tie what it is. */
    private void sayAnew() {
        for (int k = 0; k < 16; k++) {
            answers.add(x.unsay(0));
        }
        for (int house = 0; house < 10; house++) {
            answers.add(x.say(6, house, house));
        }
        for (int house = 0; house < 10; house++) {
            for (int other = 0; other < 10; other++) {
                answers.add(x.way(6, house, other, 1));
            }
        }
    }

    private void takeTies() {
        for (int house = 0; house < 10; house++) {
            for (int other = house + 1; other < 10; other++) {
                answers.add(x.untie(house, other));
            }
        }
        answers.add(x.house());
    }
}
