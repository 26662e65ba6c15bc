import java.util.function.Supplier;
import java.util.function.ToIntFunction;

/** The edges of the promises 13 to 23: what can be asked. */
final class AskingEdges {
    private static final Supplier<CallRouter> ORDINARY = Scenes::ordinary;
    private static final Supplier<CallRouter> FULL = Scenes::full;

    private AskingEdges() {
    }

    static void look() {
        time();
        band();
        route();
        choice();
        choiceByBand();
        choiceAnswers();
        calls();
        way();
        called();
        owes();
        attempts();
        attempt();
    }

    private static int[] at(int value, int due) {
        return new int[] {value, due};
    }

    /** Asking changes nothing, whatever the answer is. */
    static void onlyAsks(String name, ToIntFunction<CallRouter> call, int ordinary, int full) {
        Reveal.unchanged(name, ORDINARY, call, ordinary);
        Reveal.unchanged(name, FULL, call, full);
    }

    private static void time() {
        Check.sentence(13, "Returns the time. Returns the time.");
        Check.due("the first minute", new CallRouter().time(), 0);
        Check.due("the last minute", Scenes.late().time(), 1000000);
        onlyAsks("time", CallRouter::time, 500, 0);
    }

    private static void band() {
        Check.sentence(14, "Returns the present band. Returns 0 to 2.");
        int[] times = {0, 479, 480, 1199, 1200, 7199, 7200, 10079, 10080};
        int[] bands = {1, 1, 0, 0, 1, 1, 2, 2, 1};
        CallRouter x = new CallRouter();
        for (int i = 0; i < times.length; i++) {
            Scenes.passTo(x, times[i]);
            Check.due("band at " + times[i], x.band(), bands[i]);
        }
        x.undo();
        Check.due("of the time that is restored", x.band(), 2);
        onlyAsks("band", CallRouter::band, 0, 1);
    }

    private static void route() {
        Check.sentence(15, "Returns a number of a route.");
        onlyAsks("route", x -> x.route(0, 5), 8, 0);
        Check.sentence(15, "route: a route");
        Reveal.range("route", ORDINARY, (x, route) -> x.route(route, 3), at(0, 5), at(4, 4));
        Reveal.range("route", FULL, (x, route) -> x.route(route, 3), at(0, 0), at(39, 39));
        Check.due("no route", new CallRouter().route(0, 0), -1);
        Check.sentence(15, "what: 0 its switch, 1 its prefix, 2 the next switch, 3 to 5 its costs in the bands 0 to"
                + " 2, 6 its lines, 7 how many of them are occupied");
        Reveal.range("what", ORDINARY, (x, what) -> x.route(0, what), at(0, 0), at(7, 1));
        Reveal.range("what", FULL, (x, what) -> x.route(16, what), at(0, 0), at(7, 5));
        int[][] due = {{0, 0, 1, 5, 5, 8, 2, 1}, {1, 0, 2, 3, 3, 3, 2, 1}, {2, 0, 2, 9, 9, 9, 1, 0},
            {0, 7, 2, 1, 1, 1, 1, 1}, {1, 9903, 3, 4, 4, 4, 3, 0}};
        CallRouter x = Scenes.ordinary();
        for (int route = 0; route < due.length; route++) {
            for (int what = 0; what < 8; what++) {
                Check.due("route " + route + ", " + what, x.route(route, what), due[route][what]);
            }
        }
        Check.sentence(15, "Returns that number; BAD if there is no such route, or what is not in its range.");
        Check.due("both are bad", x.route(5, 8), -1);
        Check.due("both are bad", x.route(-1, -1), -1);
        CallRouter y = Scenes.chain(2);
        for (int i = 0; i < 10; i++) {
            Check.due("occupied", y.route(0, 7), i);
            y.call(0, 1 + i);
        }
        Check.due("occupied", y.route(0, 7), 10);
    }

    private static void choice() {
        Check.sentence(16, "Returns the routes that a switch would take for a number that arrives there, not marked"
                + " and not looked up.");
        CallRouter x = Scenes.switches(2);
        x.addRoute(0, 0, 1, 3, 1);
        x.addRoute(0, 9901, 1, 2, 1);
        x.addRoute(1, 0, 1, 1, 1);
        x.setLookup(0, true);
        x.port(5, 1);
        Check.due("not looked up", x.choice(0, 5, 0), 0);
        x.port(6, 0);
        Check.due("even if it would end there", x.choice(0, 6, 0), 0);
        Check.due("its digits themselves", x.choice(0, 99015, 0), 1);
        x.call(0, 7);
        Check.due("even if it is busy, and no line is free", x.choice(0, 7, 0), 0);
        onlyAsks("choice", y -> y.choice(0, 71, 0), 3, 0);
        Check.sentence(16, "s: a switch");
        Reveal.range("s", ORDINARY, (y, s) -> y.choice(s, 8, 0), at(0, 0), at(3, -9));
        Reveal.range("s", FULL, (y, s) -> y.choice(s, 41, 0), at(0, 32), at(7, 39));
        Check.sentence(16, "number: 1 to 999999999");
        Reveal.range("number", ORDINARY, (y, number) -> y.choice(0, number, 0), at(1, 0), at(999999999, 0));
    }

    private static void choiceByBand() {
        Check.sentence(16, "the order in which they would be tried");
        int[] times = {480, 0, 7200};
        int[][] orders = {{1, 2, 3}, {2, 3, 1}, {3, 1, 2}};
        for (int s = 0; s < 8; s++) {
            for (int band = 0; band < 3; band++) {
                CallRouter x = Scenes.switches(8);
                x.addRoute(s, 0, s, 0, 1);
                for (int route = 1; route <= 3; route++) {
                    x.addRoute(s, 12, s, 500, 1);
                    for (int i = 0; i < 3; i++) {
                        x.setCost(route, i, (route - 1 - i + 3) % 3);
                    }
                }
                Scenes.passTo(x, times[band]);
                for (int i = 0; i < 3; i++) {
                    Check.due("place " + i + " at " + s + " in band " + band, x.choice(s, 123, i), orders[band][i]);
                }
                Check.due("no more", x.choice(s, 123, 3), -9);
                Check.due("not at another switch", x.choice((s + 1) % 8, 123, 0), -9);
            }
        }
    }

    private static void choiceAnswers() {
        Check.sentence(16, "i: the place in the order in which they would be tried, from 0");
        CallRouter x = Scenes.switches(1);
        for (int i = 0; i < 40; i++) {
            x.addRoute(0, 0, 0, i % 2 == 0 ? 1000 : 0, 1);
        }
        for (int i = 0; i < 40; i++) {
            Check.due("place " + i, x.choice(0, 5, i), i < 20 ? 2 * i + 1 : 2 * (i - 20));
        }
        Check.due("place 40", x.choice(0, 5, 40), -9);
        Check.due("place 41", x.choice(0, 5, 41), -9);
        Check.due("the greatest place", x.choice(0, 5, Integer.MAX_VALUE), -9);
        Check.sentence(16, "Returns the route; BAD if there is no such switch, number is not in its range, or i is"
                + " negative; NONE if there are not so many routes.");
        Reveal.unchanged("i = -1", ORDINARY, y -> y.choice(0, 5, -1), -1);
        Reveal.unchanged("the least i", ORDINARY, y -> y.choice(0, 5, Integer.MIN_VALUE), -1);
        Reveal.unchanged("the first one", ORDINARY, y -> y.choice(0, 5, 0), 0);
        Reveal.unchanged("no second one", ORDINARY, y -> y.choice(0, 5, 1), -9);
        Reveal.unchanged("the greatest i", ORDINARY, y -> y.choice(0, 5, Integer.MAX_VALUE), -9);
        Check.due("no routes", Scenes.switches(1).choice(0, 5, 0), -9);
        Check.due("no routes, and i is negative", Scenes.switches(1).choice(0, 5, -1), -1);
        Check.due("no switch, and not so many", Scenes.switches(1).choice(1, 5, 0), -1);
        Check.due("no number, and not so many", Scenes.switches(1).choice(0, 0, 0), -1);
        Check.due("no switches", new CallRouter().choice(0, 5, 0), -1);
    }

    private static void calls() {
        Check.sentence(17, "Returns the number of calls that are connected. Returns the number of calls.");
        CallRouter x = Scenes.chain(1);
        for (int i = 0; i < 10; i++) {
            Check.due("calls", x.calls(), i);
            x.call(0, 1 + i);
            x.call(0, 1 + i);
        }
        Check.due("calls", x.calls(), 10);
        for (int i = 9; i >= 0; i--) {
            x.end(i);
            x.end(i);
            Check.due("calls", x.calls(), i);
        }
        x.undo();
        Check.due("one is restored", x.calls(), 1);
        onlyAsks("calls", CallRouter::calls, 2, 10);
    }

    private static void way() {
        Check.sentence(18, "Returns a route on the way of a call.");
        onlyAsks("way", x -> x.way(0, 0), 0, 8);
        Check.sentence(18, "place: its place");
        Reveal.range("place", FULL, (x, place) -> x.way(place, 0), at(0, 8), at(9, 16));
        Reveal.range("place", ORDINARY, (x, place) -> x.way(place, 0), at(0, 0), at(2, 3));
        Check.due("a place that became free", Scenes.ordinary().way(1, 0), -1);
        Check.due("no call", new CallRouter().way(0, 0), -1);
        Check.sentence(18, "i: the place on the way, from 0");
        for (int size = 1; size <= 6; size++) {
            CallRouter x = Scenes.chain(size);
            x.setLimit(6);
            x.call(0, 5);
            for (int i = 0; i < size; i++) {
                Check.due("place " + i, x.way(0, i), i);
            }
            for (int i = size; i < 10; i++) {
                Check.due("place " + i + " of " + size, x.way(0, i), -9);
            }
        }
        Check.sentence(18, "Returns the route; BAD if there is no call at this place, or i is negative; NONE if its"
                + " way does not have so many routes.");
        Reveal.unchanged("the last one", ORDINARY, x -> x.way(0, 2), 2);
        Reveal.unchanged("behind it", ORDINARY, x -> x.way(0, 3), -9);
        Reveal.unchanged("the greatest i", ORDINARY, x -> x.way(0, Integer.MAX_VALUE), -9);
        Reveal.unchanged("i = -1", ORDINARY, x -> x.way(0, -1), -1);
        Reveal.unchanged("the least i", ORDINARY, x -> x.way(0, Integer.MIN_VALUE), -1);
        Reveal.unchanged("no call, and not so many", ORDINARY, x -> x.way(1, 9), -1);
        CallRouter y = Scenes.switches(1);
        y.setLookup(0, true);
        y.port(5, 0);
        y.call(0, 5);
        Check.due("a way without routes", y.way(0, 0), -9);
        Check.due("a way without routes", y.way(0, -1), -1);
    }

    private static void called() {
        Check.sentence(19, "Returns the number that a call has called.");
        onlyAsks("called", x -> x.called(2), 71, 101);
        CallRouter y = Scenes.switches(2);
        y.setLookup(0, true);
        y.addRoute(0, 9901, 1, 0, 1);
        for (int number : new int[] {1, 999999999}) {
            y.port(number, 1);
            Check.due("marked", y.call(0, number), 0);
            Check.due("without its mark", y.called(0), number);
            y.end(0);
        }
        Check.sentence(19, "place: its place");
        Reveal.range("place", FULL, CallRouter::called, at(0, 100), at(9, 204));
        Reveal.range("place", ORDINARY, CallRouter::called, at(0, 6), at(2, 71));
        Check.sentence(19, "Returns the number; BAD if there is no call at this place.");
        Reveal.unchanged("a place that became free", ORDINARY, x -> x.called(1), -1);
        Check.due("no call", new CallRouter().called(0), -1);
    }

    private static void owes() {
        Check.sentence(20, "Returns what a switch owes another one (each direction has its own sum).");
        CallRouter x = Scenes.switches(2);
        x.addRoute(0, 1, 1, 3, 1);
        x.addRoute(1, 1, 1, 9, 1);
        x.addRoute(1, 2, 0, 5, 1);
        x.addRoute(0, 2, 0, 9, 1);
        x.call(0, 1);
        x.call(1, 2);
        Check.due("not before it ends", x.owes(0, 1), 0);
        x.end(0);
        Check.due("owed", x.owes(0, 1), 3);
        Check.due("not the other direction", x.owes(1, 0), 0);
        x.end(1);
        Check.due("its own sum", x.owes(0, 1), 3);
        Check.due("its own sum", x.owes(1, 0), 5);
        onlyAsks("owes", y -> y.owes(0, 1), 150, 0);
        Check.sentence(20, "s: a switch");
        Reveal.range("s", ORDINARY, (y, s) -> y.owes(s, 1), at(0, 150), at(3, 0));
        Reveal.range("s", FULL, (y, s) -> y.owes(s, 1), at(0, 0), at(7, 0));
        Check.sentence(20, "t: a switch");
        Reveal.range("t", ORDINARY, (y, t) -> y.owes(1, t), at(0, 0), at(3, 120));
        Reveal.range("t", FULL, (y, t) -> y.owes(1, t), at(0, 0), at(7, 0));
        Check.sentence(20, "Returns the sum; 0 if both are the same; BAD if there is no such switch.");
        CallRouter z = Scenes.ordinary();
        for (int s = 0; s < 4; s++) {
            Check.due("both are the same", z.owes(s, s), 0);
        }
        for (int s : new int[] {-1, 4, 8, Integer.MIN_VALUE, Integer.MAX_VALUE}) {
            Check.due("both are the same, but no switch", z.owes(s, s), -1);
        }
        Check.due("no switches", new CallRouter().owes(0, 0), -1);
    }

    private static void attempts() {
        Check.sentence(21, "Returns the number of attempts of the latest call that was placed.");
        onlyAsks("attempts", CallRouter::attempts, 1, 2);
        CallRouter x = Scenes.chain(6);
        x.setLimit(6);
        for (int s = 5; s >= 0; s--) {
            x.call(s, 5 + s);
            Check.due("attempts", x.attempts(), 6 - s);
        }
        Check.sentence(21, "Returns the number of attempts (a 31st one does not count); 0 if there was no call.");
        for (int routes = 0; routes <= 40; routes++) {
            CallRouter y = Scenes.switches(2);
            for (int i = 0; i < routes; i++) {
                y.addRoute(0, 0, 1, 1, 1);
            }
            Check.due("no call", y.attempts(), 0);
            Check.due("it fails", y.call(0, 5), routes <= 30 ? -11 : -16);
            Check.due("attempts of " + routes, y.attempts(), Math.min(30, routes));
        }
        Check.due("no call", new CallRouter().attempts(), 0);
        Check.due("no call", Scenes.switches(8).attempts(), 0);
    }

    /** A call with this many attempts. */
    private static CallRouter failed(int routes) {
        CallRouter x = Scenes.switches(2);
        for (int i = 0; i < routes; i++) {
            x.addRoute(0, 0, 1, routes - i, 1);
        }
        x.call(0, 5);
        return x;
    }

    private static void attempt() {
        Check.sentence(22, "Returns an attempt of the latest call that was placed.");
        onlyAsks("attempt", x -> x.attempt(0, 0), 3, 16);
        Check.sentence(22, "i: its index, from 0, in the order in which the attempts began");
        Reveal.range("i", () -> failed(1), (x, i) -> x.attempt(i, 0), at(0, 0), at(0, 0));
        Reveal.range("i", () -> failed(3), (x, i) -> x.attempt(i, 0), at(0, 2), at(2, 0));
        Reveal.range("i", () -> failed(30), (x, i) -> x.attempt(i, 0), at(0, 29), at(29, 0));
        Reveal.range("i", () -> failed(31), (x, i) -> x.attempt(i, 0), at(0, 30), at(29, 1));
        Check.sentence(22, "what: 0 the route, 1 the code with which it ended");
        Reveal.range("what", ORDINARY, (x, what) -> x.attempt(0, what), at(0, 3), at(1, 2));
        Reveal.range("what", FULL, (x, what) -> x.attempt(1, what), at(0, 17), at(1, 0));
        for (int code = 1; code <= 5; code++) {
            CallRouter x = NetworkEdges.failingFirst(code);
            x.call(0, 7);
            Check.due("the route", x.attempt(0, 0), 0);
            Check.due("the code", x.attempt(0, 1), code);
        }
        Check.sentence(22, "Returns that number; BAD if there is no such attempt, or what is not 0 or 1.");
        for (int i = 0; i <= 31; i++) {
            CallRouter x = failed(i);
            for (int k = 0; k < Math.min(30, i); k++) {
                Check.due("attempt " + k + " of " + i, x.attempt(k, 0), i - 1 - k);
                Check.due("its code", x.attempt(k, 1), 1);
            }
            Check.due("no such attempt", x.attempt(Math.min(30, i), 0), -1);
            Check.due("no such attempt", x.attempt(Math.min(30, i), 1), -1);
            Check.due("both are bad", x.attempt(Math.min(30, i), 2), -1);
        }
        Check.due("no call", new CallRouter().attempt(0, 0), -1);
    }
}
