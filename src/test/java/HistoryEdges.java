import java.util.List;
import java.util.function.Supplier;
import java.util.function.ToIntFunction;

/** The edges that the document names under HISTORY and ERRORS, the constants, and the promises 27 and 28. */
final class HistoryEdges {
    private HistoryEdges() {
    }

    static void look() {
        fiveStates();
        whatIsKept();
        debtsAreKept();
        waysAreKept();
        actsThatChangeNothing();
        theOldestOneIsDropped();
        theTraceStays();
        theBufferStays();
        errorsChangeNothing();
        firstListed();
        constants();
        undo();
        fingerprint();
        fingerprintOfAll();
    }

    private static void fiveStates() {
        Check.sentence(0, "A history of at most 5 states is kept");
        for (int acts = 0; acts <= 12; acts++) {
            CallRouter x = new CallRouter();
            for (int i = 0; i < acts; i++) {
                x.pass(1);
            }
            for (int i = Math.min(acts, 5) - 1; i >= 0; i--) {
                Check.due("states behind " + acts + " acts", x.undo(), i);
            }
            Check.due("no more", x.undo(), -9);
            Check.due("time", x.time(), Math.max(0, acts - 5));
        }
    }

    /** Each act changes one thing of the list, and undo() brings it back. */
    private static void whatIsKept() {
        Check.sentence(0, "(switches, routes, ported numbers, hop limit, calls, lines, debts and time).");
        Supplier<CallRouter> scene = Scenes::ordinary;
        Reveal.act("addSwitch", scene, CallRouter::addSwitch, 4);
        Reveal.act("setLookup on", scene, x -> x.setLookup(0, true), 0);
        Reveal.act("setLookup off", scene, x -> x.setLookup(1, false), 1);
        Reveal.act("setCodes", scene, x -> x.setCodes(2, 0), 62);
        Reveal.act("setLimit", scene, x -> x.setLimit(6), 4);
        Reveal.act("addRoute", scene, x -> x.addRoute(3, 12, 0, 9, 9), 5);
        Reveal.act("setCost", scene, x -> x.setCost(1, 0, 77), 3);
        Reveal.act("port", scene, x -> x.port(8, 1), -9);
        Reveal.act("port again", scene, x -> x.port(5, 1), 3);
        Reveal.act("unport", scene, x -> x.unport(5), 3);
        Reveal.act("call", scene, x -> x.call(0, 5), 1);
        Reveal.act("end of the first call", scene, x -> x.end(0), 8 * 500);
        Reveal.act("end of the last call", scene, x -> x.end(2), 500);
        Reveal.act("pass", scene, x -> x.pass(10080), 10580);
        Reveal.act("run", scene, CallRouter::run, 2);
        Reveal.act("unport of the first of 30", Scenes::full, x -> x.unport(1000), 0);
        Reveal.act("unport of the last of 30", Scenes::full, x -> x.unport(1029), 5);
        Reveal.act("the costs of the last of 40 routes", Scenes::full, x -> x.setCost(39, 2, 1000), 39);
        Reveal.act("end of the last of 10 calls", Scenes::full, x -> x.end(9), 16);
        Reveal.act("codes of the last of 8 switches", Scenes::full, x -> x.setCodes(7, 0), 30);
        Reveal.act("lookup of the last of 8 switches", Scenes::full, x -> x.setLookup(7, true), 0);
        Reveal.act("end in the last minute", Scenes::late, x -> x.end(0), 1000000);
    }

    private static void debtsAreKept() {
        Check.sentence(0, "calls, lines, debts and time).");
        for (int s = 0; s < 8; s++) {
            for (int t = 0; t < 8; t++) {
                if (s != t) {
                    CallRouter x = Scenes.switches(8);
                    x.addRoute(s, 0, t, 5, 1);
                    x.addRoute(t, 0, t, 0, 1);
                    x.call(s, 6);
                    x.end(0);
                    Check.due(s + " owes " + t, x.owes(s, t), 5);
                    x.undo();
                    Check.due(s + " does not owe " + t, x.owes(s, t), 0);
                    Check.due("a line is occupied", x.route(0, 7), 1);
                    x.end(0);
                    x.call(s, 6);
                    x.end(0);
                    x.undo();
                    Check.due(s + " owes " + t + " for one call", x.owes(s, t), 5);
                }
            }
        }
    }

    private static void waysAreKept() {
        Check.sentence(0, "hop limit, calls, lines,");
        for (int place = 0; place < 10; place++) {
            CallRouter x = Scenes.chain(6);
            x.setLimit(6);
            for (int i = 0; i < 10; i++) {
                x.call(0, 50 + i);
            }
            x.pass(7);
            x.end(place);
            Check.due("another call at its place", x.call(4, 6), place);
            CallEdges.dueWay("another way", x, place, 4, 5);
            x.undo();
            Check.due("no call", x.way(place, 0), -1);
            x.undo();
            CallEdges.dueWay("its way", x, place, 0, 1, 2, 3, 4, 5);
            Check.due("its number", x.called(place), 50 + place);
            Check.due("its minutes", x.end(place), 35);
        }
    }

    private static void actsThatChangeNothing() {
        Check.sentence(0, "Each call of a method described as an act that returns no error adds the state before it,"
                + " also if it leaves all as it was;");
        Supplier<CallRouter> scene = Scenes::ordinary;
        Reveal.act("setLookup", scene, x -> x.setLookup(1, true), 1);
        Reveal.act("setLookup", scene, x -> x.setLookup(0, false), 0);
        Reveal.act("setCodes", scene, x -> x.setCodes(2, 62), 62);
        Reveal.act("setLimit", scene, x -> x.setLimit(4), 4);
        Reveal.act("setCost", scene, x -> x.setCost(1, 0, 3), 3);
        Reveal.act("port", scene, x -> x.port(5, 3), 3);
        Reveal.act("port of the last of 30", Scenes::full, x -> x.port(1029, 5), 5);
        Reveal.act("run", Scenes.withText(scene, "l1;p5>3"), CallRouter::run, 2);
        CallRouter x = Scenes.switches(1);
        for (int i = 1; i < 5; i++) {
            x.setLimit(5);
        }
        Check.due("states", x.undo(), 4);
        Check.due("the switch is still there", x.owes(0, 0), 0);
        for (int i = 3; i >= 1; i--) {
            Check.due("states", x.undo(), i);
            Check.due("the switch is still there", x.owes(0, 0), 0);
        }
        Check.due("states", x.undo(), 0);
        Check.due("no switch", x.owes(0, 0), -1);
    }

    private static void theOldestOneIsDropped() {
        Check.sentence(0, "if there are 5 already, the oldest one is dropped.");
        for (int undone = 0; undone <= 5; undone++) {
            for (int more = 0; more <= 12; more++) {
                CallRouter x = new CallRouter();
                for (int i = 0; i < 7; i++) {
                    x.pass(1);
                }
                for (int i = 0; i < undone; i++) {
                    x.undo();
                }
                for (int i = 0; i < more; i++) {
                    x.pass(100);
                }
                int states = Math.min(5, 5 - undone + more);
                for (int i = 1; i <= states; i++) {
                    Check.due("states", x.undo(), states - i);
                    int time = i <= more ? 7 - undone + 100 * (more - i) : 7 - undone - (i - more);
                    Check.due("the time of the state", x.time(), time);
                }
                Check.due("no more", x.undo(), -9);
            }
        }
    }

    private static void theTraceStays() {
        Check.sentence(0, "undo() removes the latest one and restores it (the trace of the latest call stays).");
        CallRouter x = Scenes.chain(3);
        x.call(0, 5);
        x.call(2, 5);
        CallEdges.dueTrace("the latest call", x, 2, 5);
        Check.due("undo of the call before", x.undo(), 4);
        Check.due("no call", x.calls(), 0);
        CallEdges.dueTrace("the latest call", x, 2, 5);
        x.call(0, 6);
        for (int i = 0; i < 6; i++) {
            x.undo();
            CallEdges.dueTrace("the latest call", x, 0, 0, 1, 0, 2, 0);
        }
        Check.due("its routes are gone", x.route(1, 0), -1);
    }

    private static void theBufferStays() {
        Check.sentence(0, "(switches, routes, ported numbers, hop limit, calls, lines, debts and time)");
        CallRouter x = Scenes.ordinary();
        for (int i = 4; i >= 0; i--) {
            Check.due("states", x.undo(), i);
        }
        Check.due("the buffer is no part of them", x.run(), 2);
        Check.due("its commands were carried out", x.unport(8), 1);
    }

    private static void errorsChangeNothing() {
        Check.sentence(0, "A call of a method that returns an error changes nothing.");
        Supplier<CallRouter> full = Scenes::full;
        Reveal.unchanged("a ninth switch", full, CallRouter::addSwitch, -3);
        Reveal.unchanged("a 41st route", full, x -> x.addRoute(0, 0, 0, 0, 1), -3);
        Reveal.unchanged("a 31st number", full, x -> x.port(5, 0), -3);
        Reveal.unchanged("an eleventh call", full, x -> x.call(0, 5), -3);
        Reveal.unchanged("an eleventh call to a busy number", full, x -> x.call(0, 100), -3);
        Reveal.unchanged("an 81st character", full, x -> x.type('l'), -3);
        Reveal.unchanged("a number that is not ported", full, x -> x.unport(1030), -9);
        Reveal.unchanged("a minute too much", Scenes::late, x -> x.pass(1), -2);
        Reveal.unchanged("no state", Scenes::empty, CallRouter::undo, -9);
        Reveal.unchanged("no text", Scenes::empty, CallRouter::run, -100);
        for (ToIntFunction<CallRouter> call : badCalls()) {
            for (Supplier<CallRouter> scene : Scenes.SOME) {
                Reveal.unchanged("a bad call", scene, call, -1);
            }
            Reveal.unchanged("a bad call", Scenes::late, call, -1);
        }
    }

    /** Calls with an argument that no state allows. */
    private static List<ToIntFunction<CallRouter>> badCalls() {
        return List.of(x -> x.setLookup(8, true), x -> x.setLookup(-1, true), x -> x.setCodes(8, 2),
            x -> x.setCodes(0, 31), x -> x.setLimit(0), x -> x.setLimit(7), x -> x.addRoute(8, 0, 0, 0, 1),
            x -> x.addRoute(0, 0, 8, 0, 1), x -> x.addRoute(0, -1, 0, 0, 1), x -> x.addRoute(0, 0, 0, 1001, 1),
            x -> x.addRoute(0, 0, 0, 0, 0), x -> x.setCost(40, 0, 0), x -> x.setCost(0, 3, 0), x -> x.setCost(0, 0, -1),
            x -> x.port(0, 0), x -> x.port(5, 8), x -> x.unport(0), x -> x.call(8, 5), x -> x.call(0, 0),
            x -> x.end(-1), x -> x.end(10), x -> x.pass(0), x -> x.pass(10081), x -> x.route(40, 0),
            x -> x.choice(0, 5, -1), x -> x.way(10, 0), x -> x.called(10), x -> x.owes(0, 8), x -> x.attempt(-1, 0),
            x -> x.cheapest(8, 5), x -> x.type(31));
    }

    private static void firstListed() {
        Check.sentence(0, "If several errors apply, the one listed first is returned.");
        CallRouter x = Scenes.full();
        Check.due("addRoute: BAD, FULL", x.addRoute(8, 0, 0, 0, 1), -1);
        Check.due("addRoute: BAD, FULL", x.addRoute(0, 1000000000, 0, 0, 1), -1);
        Check.due("addRoute: BAD, FULL", x.addRoute(0, 0, 8, 0, 1), -1);
        Check.due("addRoute: BAD, FULL", x.addRoute(0, 0, 0, 1001, 1), -1);
        Check.due("addRoute: BAD, FULL", x.addRoute(0, 0, 0, 0, 21), -1);
        Check.due("port: BAD, FULL", x.port(5, 8), -1);
        Check.due("port: BAD, FULL", x.port(0, 0), -1);
        Check.due("port: BAD, FULL", x.port(1000000000, 0), -1);
        Check.due("unport: BAD, NONE", x.unport(0), -1);
        Check.due("unport: BAD, NONE", x.unport(1000000000), -1);
        Check.due("call: BAD, FULL", x.call(8, 5), -1);
        Check.due("call: BAD, FULL", x.call(0, 0), -1);
        Check.due("call: BAD, FULL", x.call(0, 1000000000), -1);
        Check.due("choice: BAD, NONE", x.choice(8, 5, 40), -1);
        Check.due("choice: BAD, NONE", x.choice(0, 0, 40), -1);
        Check.due("way: BAD, NONE", x.way(10, 9), -1);
        Check.due("cheapest: BAD, NONE", x.cheapest(8, 5), -1);
        Check.due("cheapest: BAD, NONE", x.cheapest(0, 0), -1);
        Check.due("type: BAD, FULL", x.type(127), -1);
        Check.due("run: an error of the text, a command that is not possible", Scenes.run(x, "l9;l"), -104);
        Check.due("pass: BAD, STATE", Scenes.late().pass(10081), -1);
        Check.due("pass: BAD, STATE", Scenes.late().pass(Integer.MAX_VALUE), -1);
    }

    private static void constants() {
        Check.sentence(0, "BAD = -1: An argument is not allowed, or there is no such thing.");
        Check.due("BAD", CallRouter.BAD, -1);
        Check.due("an argument", new CallRouter().pass(0), CallRouter.BAD);
        Check.due("no such thing", new CallRouter().end(0), CallRouter.BAD);
        Check.sentence(0, "STATE = -2: The method is not possible now.");
        Check.due("STATE", CallRouter.STATE, -2);
        Check.due("not now", Scenes.late().pass(1), CallRouter.STATE);
        Check.sentence(0, "FULL = -3: There is no room.");
        Check.due("FULL", CallRouter.FULL, -3);
        Check.due("no room", Scenes.full().addSwitch(), CallRouter.FULL);
        Check.sentence(0, "NONE = -9: There is none.");
        Check.due("NONE", CallRouter.NONE, -9);
        Check.due("none", new CallRouter().undo(), CallRouter.NONE);
    }

    private static void undo() {
        Check.sentence(27, "Undoes the latest act.");
        CallRouter x = Scenes.ordinary();
        x.setLimit(1);
        x.setLimit(2);
        Check.due("the latest one", x.undo(), 4);
        Check.due("only the latest one", x.setLimit(3), 1);
        CallRouter y = Scenes.chain(1);
        y.call(0, 5);
        y.call(0, 5);
        Check.due("a call that is not connected is no act", y.undo(), 2);
        Check.due("the call before is undone", y.calls(), 0);
        Check.sentence(27, "Returns how many states the history still has; NONE if it has none.");
        CallRouter z = Scenes.switches(8);
        for (int i = 4; i >= 0; i--) {
            Check.due("states", z.undo(), i);
        }
        Check.due("none", z.undo(), -9);
        Check.due("none again", z.undo(), -9);
        Check.due("three switches are left", z.addSwitch(), 3);
        Check.due("one", z.undo(), 0);
        Check.due("undo() is no act", z.undo(), -9);
        Reveal.unchanged("none", Scenes::empty, CallRouter::undo, -9);
        Reveal.unchanged("all undone", HistoryEdges::allUndone, CallRouter::undo, -9);
    }

    private static CallRouter allUndone() {
        CallRouter x = Scenes.ordinary();
        for (int i = 0; i < 5; i++) {
            x.undo();
        }
        return x;
    }

    private static long folded(long... numbers) {
        long sum = 79;
        for (long number : numbers) {
            sum = 31 * sum + number;
        }
        return sum;
    }

    private static void fingerprint() {
        Check.sentence(28, "Returns a fingerprint. It starts as 79; then, for each of the following numbers, in this"
                + " order, it becomes 31 times itself plus the number, in long arithmetic with overflow:");
        Check.due("of a new object", new CallRouter().fingerprint(), folded(0, 0, 0, 5, 0, 0));
        Check.due("one switch", Scenes.switches(1).fingerprint(), folded(1, 0, 0, 5, 0, 0, 0));
        Check.due("a route", Scenes.chain(1).fingerprint(), folded(1, 1, 0, 0, 0, 1, 1, 1, 20, 0, 0, 5, 0, 0, 0));
        CallRouter x = Scenes.chain(2);
        x.setCost(0, 0, 7);
        x.setCost(0, 2, 9);
        x.setLimit(6);
        x.port(5, 1);
        x.pass(10);
        x.call(0, 5);
        x.end(0);
        x.call(0, 5);
        Check.due("of all", x.fingerprint(), folded(2, 2, 0, 0, 1, 7, 1, 9, 20, 1, 1, 0, 1, 1, 1, 1, 20, 0, 1, 6, 10, 1,
                0, 1, 0, 0));
    }

    private static void fingerprintOfAll() {
        Check.sentence(28, "the number of switches, the number of routes; for each route route() 0 to 7; the number"
                + " of ported numbers, the hop limit, time(), calls(); for each two switches s and t, in the order of"
                + " s and then of t, owes().");
        dueFolded("empty", Scenes.empty(), 0, 0, 0, 5);
        dueFolded("ordinary", Scenes.ordinary(), 4, 5, 2, 4);
        dueFolded("full", Scenes.fullNetwork(), 8, 40, 30, 5);
        dueFolded("late", Scenes.late(), 2, 2, 0, 5);
        CallRouter x = Scenes.late();
        x.end(0);
        dueFolded("debts", x, 2, 2, 0, 5);
        Check.sentence(28, "Returns the fingerprint.");
        Reveal.unchanged("asking for it", Scenes::ordinary, y -> {
            y.fingerprint();
            return 0;
        }, 0);
    }

    private static void dueFolded(String name, CallRouter x, int switches, int routes, int ported, int limit) {
        long[] numbers = new long[6 + 8 * routes + switches * switches];
        int at = 0;
        numbers[at++] = switches;
        numbers[at++] = routes;
        for (int route = 0; route < routes; route++) {
            for (int what = 0; what < 8; what++) {
                numbers[at++] = x.route(route, what);
            }
        }
        numbers[at++] = ported;
        numbers[at++] = limit;
        numbers[at++] = x.time();
        numbers[at++] = x.calls();
        for (int s = 0; s < switches; s++) {
            for (int t = 0; t < switches; t++) {
                numbers[at++] = x.owes(s, t);
            }
        }
        Check.due(name, x.fingerprint(), folded(numbers));
    }
}
