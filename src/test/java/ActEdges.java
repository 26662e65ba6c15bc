import java.util.function.Supplier;

/** The edges of the promises 10 to 12: call, end, pass. */
final class ActEdges {
    private static final Supplier<CallRouter> ORDINARY = Scenes::ordinary;
    private static final Supplier<CallRouter> FULL = Scenes::full;

    private ActEdges() {
    }

    static void look() {
        call();
        traces();
        callArguments();
        callAnswers();
        end();
        pass();
        passToTheEnd();
    }

    private static int[] at(int value, int due) {
        return new int[] {value, due};
    }

    private static void call() {
        Check.sentence(10, "Places a call. This is an act if it is connected;");
        Reveal.act("connected", ORDINARY, x -> x.call(0, 5), 1);
        Reveal.act("connected without a route", () -> {
            CallRouter x = Scenes.ordinary();
            x.setLookup(3, true);
            return x;
        }, x -> x.call(3, 5), 1);
        for (int code = 1; code <= 5; code++) {
            CallRouter x = NetworkEdges.failingFirst(code);
            x.setCodes(0, 0);
            x.pass(3);
            long before = x.fingerprint();
            Check.due("not connected", x.call(0, 7), -10 - code);
            Check.due("no act", x.fingerprint(), before);
            Check.due("no act", x.undo(), 4);
            Check.due("the act before is undone", x.time(), 0);
        }
    }

    private static void traces() {
        Check.sentence(10, "its trace replaces that of the call before in any case (if no error is returned).");
        CallRouter x = Scenes.chain(3);
        Check.due("connected", x.call(0, 5), 0);
        CallEdges.dueTrace("connected", x, 0, 0, 1, 0, 2, 0);
        Check.due("not connected", x.call(1, 5), -15);
        CallEdges.dueTrace("not connected", x, 1, 5, 2, 5);
        Check.due("no such switch", x.call(3, 5), -1);
        Check.due("no such number", x.call(0, 0), -1);
        CallEdges.dueTrace("errors leave it", x, 1, 5, 2, 5);
        x.addSwitch();
        Check.due("no attempt", x.call(3, 5), -11);
        CallEdges.dueTrace("no attempt", x);
        for (int i = 1; i < 10; i++) {
            Check.due("connected", x.call(2, 60 + i), i);
        }
        CallEdges.dueTrace("the tenth", x, 2, 0);
        Check.due("the eleventh", x.call(0, 7), -3);
        CallEdges.dueTrace("FULL leaves it", x, 2, 0);
        CallRouter y = Scenes.switches(2);
        for (int i = 0; i < 31; i++) {
            y.addRoute(0, 0, 1, 1, 1);
        }
        Check.due("code 6", y.call(0, 5), -16);
        Check.due("thirty attempts", y.attempts(), 30);
        Check.due("no attempt", y.call(1, 5), -11);
        Check.due("none is left of them", y.attempts(), 0);
        Check.due("none is left of them", y.attempt(0, 0), -1);
    }

    private static void callArguments() {
        Check.sentence(10, "s: the switch at which it is placed");
        Reveal.range("s", ORDINARY, (x, s) -> x.call(s, 8), at(0, 1), at(3, -11));
        Reveal.range("s", FULL, (x, s) -> x.call(s, 8), at(0, -3), at(7, -3));
        for (int s = 0; s < 8; s++) {
            CallRouter x = Scenes.switches(8);
            x.addRoute(s, 0, s, 0, 1);
            for (int t = 0; t < 8; t++) {
                Check.due("placed at " + t, x.call(t, 5), t == s ? 0 : -11);
            }
        }
        Check.sentence(10, "number: 1 to 999999999");
        Reveal.range("number", ORDINARY, (x, number) -> x.call(0, number), at(1, 1), at(999999999, 1));
        Reveal.range("number", FULL, (x, number) -> x.call(0, number), at(1, -3), at(999999999, -3));
    }

    private static void callAnswers() {
        Check.sentence(10, "Returns the place of the call if it is connected; -10 minus its code otherwise; BAD if"
                + " there is no such switch, or number is not in its range; FULL if 10 calls are connected.");
        for (int code = 1; code <= 5; code++) {
            CallRouter x = NetworkEdges.failingFirst(code);
            x.setCodes(0, 0);
            Check.due("code " + code, x.call(0, 7), -10 - code);
        }
        CallRouter y = Scenes.switches(2);
        for (int i = 0; i < 31; i++) {
            y.addRoute(0, 0, 1, 1, 1);
        }
        y.addRoute(1, 9, 1, 0, 1);
        Check.due("code 6", y.call(0, 5), -16);
        for (int i = 0; i < 10; i++) {
            Check.due("its place", y.call(1, 90 + i), i);
        }
        Check.due("10 calls are connected", y.call(1, 900), -3);
        Check.due("even if it is busy", y.call(1, 90), -3);
        Check.due("even if there is no route", y.call(1, 5), -3);
        Check.due("both are bad", y.call(2, 0), -1);
        y.end(0);
        Check.due("no route", y.call(1, 5), -11);
        Check.due("room again", y.call(1, 900), 0);
        Reveal.unchanged("10 calls are connected", FULL, x -> x.call(1, 5), -3);
        Reveal.unchanged("no such switch", Scenes::empty, x -> x.call(0, 5), -1);
    }

    private static void end() {
        Check.sentence(11, "Ends a call. This is an act.");
        CallRouter x = Scenes.ordinary();
        x.end(0);
        Check.due("one call", x.calls(), 1);
        Check.due("no call there", x.called(0), -1);
        Check.due("its line is free", x.route(0, 7), 0);
        Check.due("its line is free", x.route(1, 7), 0);
        Check.due("the line of the other one is not", x.route(3, 7), 1);
        Check.due("its number is not busy", x.call(1, 6), 0);
        Reveal.act("a call", ORDINARY, y -> y.end(2), 500);
        Check.sentence(11, "place: its place");
        Reveal.range("place", FULL, CallRouter::end, at(0, 0), at(9, 16));
        Reveal.range("place", ORDINARY, CallRouter::end, at(0, 4000), at(2, 500));
        Reveal.unchanged("a place that became free", ORDINARY, y -> y.end(1), -1);
        for (int place = 0; place < 10; place++) {
            CallRouter y = Scenes.fullNetwork();
            Check.due("place " + place, y.end(place), place % 2 == 0 ? 0 : 16);
            Check.due("the others stay", y.calls(), 9);
            Check.due("it has ended", y.end(place), -1);
        }
        Check.sentence(11, "Returns the sum of what is owed for it; BAD if there is no call at this place.");
        CallRouter y = Scenes.chain(3);
        Check.due("no call", y.end(0), -1);
        y.call(0, 5);
        Check.due("two routes, one minute", y.end(0), 2);
        y.call(2, 5);
        Check.due("a serving route", y.end(0), 0);
        Check.due("no call", y.end(0), -1);
        Reveal.unchanged("no call", Scenes::empty, z -> z.end(0), -1);
    }

    private static void pass() {
        Check.sentence(12, "Lets time pass. This is an act.");
        CallRouter x = new CallRouter();
        x.pass(480);
        Check.due("time", x.time(), 480);
        Check.due("band", x.band(), 0);
        Reveal.act("a minute", ORDINARY, y -> y.pass(1), 501);
        Reveal.act("a week", FULL, y -> y.pass(10080), 10080);
        Check.sentence(12, "minutes: 1 to 10080");
        Reveal.range("minutes", ORDINARY, CallRouter::pass, at(1, 501), at(10080, 10580));
        Reveal.range("minutes", Scenes::empty, CallRouter::pass, at(1, 1), at(10080, 10080));
        Reveal.range("minutes", Scenes::late, CallRouter::pass, at(1, -2), at(10080, -2));
    }

    private static CallRouter before(int time) {
        CallRouter x = new CallRouter();
        Scenes.passTo(x, time);
        return x;
    }

    private static void passToTheEnd() {
        Check.sentence(12, "Returns the time then; BAD if minutes is not in its range; STATE if the time would be"
                + " greater than 1000000.");
        Check.due("to the end", before(999999).pass(1), 1000000);
        Check.due("behind it", before(999999).pass(2), -2);
        Check.due("behind it", before(1000000).pass(1), -2);
        Check.due("to the end", before(989920).pass(10080), 1000000);
        Check.due("behind it", before(989921).pass(10080), -2);
        Check.due("to the end", before(989921).pass(10079), 1000000);
        Reveal.unchanged("behind it", () -> before(999999), x -> x.pass(2), -2);
        Reveal.unchanged("behind it", Scenes::late, x -> x.pass(1), -2);
        Reveal.unchanged("not in its range", Scenes::late, x -> x.pass(0), -1);
        CallRouter x = before(999999);
        Check.due("behind it", x.pass(10080), -2);
        Check.due("the time stays", x.time(), 999999);
        Check.due("to the end", x.pass(1), 1000000);
        Check.due("the end", x.time(), 1000000);
        Check.due("back", x.undo(), 4);
        Check.due("once more", x.pass(1), 1000000);
    }
}
