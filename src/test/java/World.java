/** Objects with houses and ties for tests, told in few words. A step that is not answered as due ends the test. */
final class World {
    private World() { }

    private static void mustBe(String step, int got, int want) {
        if (got != want) {
            throw new IllegalStateException(step + " answered " + got + ", due is " + want);
        }
    }

    static RouteWatch houses(int number) {
        RouteWatch x = new RouteWatch();
        for (int h = 0; h < number; h++) {
            mustBe("house()", x.house(), h);
        }
        return x;
    }

    /** Ties such as "0>1 1-2": 0 is a provider of 1, and 1 and 2 are peers. */
    static RouteWatch tied(int number, String ties) {
        RouteWatch x = houses(number);
        for (String tie : ties.split(" ")) {
            int one = tie.charAt(0) - '0';
            int two = tie.charAt(2) - '0';
            mustBe("tie " + tie, x.tie(one, two, tie.charAt(1) == '-'), 1);
        }
        return x;
    }

    /** 1 provides for 0, 2 for 1, and so on: the house with the highest number is on top. */
    static RouteWatch tower(int number) {
        RouteWatch x = houses(number);
        for (int h = 1; h < number; h++) {
            mustBe("tie", x.tie(h, h - 1, false), 1);
        }
        return x;
    }

    static void leak(RouteWatch x, int... houses) {
        for (int house : houses) {
            mustBe("set", x.set(0, house, true), 0);
        }
    }

    static void refuse(RouteWatch x, int... houses) {
        for (int house : houses) {
            mustBe("set", x.set(1, house, true), 0);
        }
    }

    static void right(RouteWatch x, int length, int first, int house) {
        mustBe("right", x.right(length, first, house), RouteWatch.NONE);
    }

    static void say(RouteWatch x, int length, int first, int house) {
        mustBe("say", x.say(length, first, house), x.count(3) - 1);
    }
}
