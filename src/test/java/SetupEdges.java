import java.util.function.Supplier;

/** The edges of the promises 1 to 9: a new object, switches, routes, ported numbers. */
final class SetupEdges {
    private static final Supplier<CallRouter> ORDINARY = Scenes::ordinary;
    private static final Supplier<CallRouter> FULL = Scenes::full;

    private SetupEdges() {
    }

    static void look() {
        newObject();
        addSwitch();
        setLookup();
        setCodes();
        setLimit();
        addRoute();
        addRouteLeavesTheOthers();
        addRouteArguments();
        setCost();
        port();
        portFull();
        unport();
    }

    private static int[] at(int value, int due) {
        return new int[] {value, due};
    }

    private static void newObject() {
        Check.sentence(1, "Creates a router without switches.");
        for (int s = 0; s < 8; s++) {
            CallRouter x = new CallRouter();
            Check.due("setLookup", x.setLookup(s, true), -1);
            Check.due("setCodes", x.setCodes(s, 2), -1);
            Check.due("addRoute", x.addRoute(s, 0, s, 0, 1), -1);
            Check.due("setCost", x.setCost(s, 0, 0), -1);
            Check.due("port", x.port(5, s), -1);
            Check.due("unport", x.unport(1 + s), -9);
            Check.due("call", x.call(s, 5), -1);
            Check.due("end", x.end(s), -1);
            Check.due("route", x.route(s, 0), -1);
            Check.due("choice", x.choice(s, 5, 0), -1);
            Check.due("way", x.way(s, 0), -1);
            Check.due("called", x.called(s), -1);
            Check.due("owes", x.owes(s, s), -1);
            Check.due("attempt", x.attempt(s, 0), -1);
            Check.due("cheapest", x.cheapest(s, 5), -1);
        }
        CallRouter x = new CallRouter();
        Check.due("time", x.time(), 0);
        Check.due("calls", x.calls(), 0);
        Check.due("attempts", x.attempts(), 0);
        Check.due("clear", x.clear(), 0);
        Check.due("run", x.run(), -100);
        Check.due("undo", x.undo(), -9);
        Scenes.full();
        Check.due("objects are apart", x.owes(0, 0), -1);
        Check.due("the first switch", x.addSwitch(), 0);
    }

    private static void addSwitch() {
        Check.sentence(2, "Adds a switch. This is an act.");
        Reveal.act("the fifth", ORDINARY, CallRouter::addSwitch, 4);
        Check.sentence(2, "Returns its number; FULL if there are 8 switches.");
        CallRouter x = new CallRouter();
        for (int i = 0; i < 8; i++) {
            Check.due("its number", x.addSwitch(), i);
        }
        Check.due("there are 8", x.addSwitch(), -3);
        Check.due("there are 8 still", x.addSwitch(), -3);
        Check.due("the refused ones were no acts", x.undo(), 4);
        Check.due("room again", x.addSwitch(), 7);
        Check.due("there are 8", x.addSwitch(), -3);
        Reveal.unchanged("there are 8", FULL, CallRouter::addSwitch, -3);
    }

    private static void setLookup() {
        Check.sentence(3, "Lets a switch look numbers up, or not. This is an act.");
        CallRouter x = Scenes.switches(2);
        x.port(5, 0);
        Check.due("not", x.call(0, 5), -11);
        x.setLookup(0, true);
        Check.due("it does", x.call(0, 5), 0);
        x.end(0);
        x.setLookup(0, false);
        Check.due("not", x.call(0, 5), -11);
        Reveal.act("on", ORDINARY, y -> y.setLookup(3, true), 0);
        Reveal.act("off", ORDINARY, y -> y.setLookup(1, false), 1);
        Check.sentence(3, "s: a switch");
        Reveal.range("s", ORDINARY, (y, s) -> y.setLookup(s, true), at(0, 0), at(3, 0));
        Reveal.range("s", FULL, (y, s) -> y.setLookup(s, false), at(0, 0), at(7, 0));
        Check.sentence(3, "on: true if it shall look numbers up");
        for (int s = 0; s < 8; s++) {
            CallRouter y = Scenes.switches(8);
            y.setLookup(s, true);
            y.setLookup((s + 1) % 8, false);
            for (int t = 0; t < 8; t++) {
                Check.due(t + " behind " + s, y.setLookup(t, false), t == s ? 1 : 0);
            }
        }
        Check.sentence(3, "Returns 1 if it did before, otherwise 0; BAD if there is no such switch.");
        CallRouter z = Scenes.switches(1);
        Check.due("otherwise 0", z.setLookup(0, false), 0);
        Check.due("otherwise 0", z.setLookup(0, true), 0);
        Check.due("it did before", z.setLookup(0, true), 1);
        Check.due("it did before", z.setLookup(0, false), 1);
        Check.due("no such switch", z.setLookup(1, false), -1);
        Check.due("no such switch", z.setLookup(-1, true), -1);
        Reveal.unchanged("no such switch", Scenes::empty, y -> y.setLookup(0, true), -1);
    }

    private static void setCodes() {
        Check.sentence(4, "Sets the codes for which a switch goes on to another route. This is an act.");
        for (int code = 1; code <= 5; code++) {
            CallRouter x = NetworkEdges.failingFirst(code);
            x.setCodes(0, 62 - (1 << code));
            x.call(0, 7);
            Check.due("not code " + code, x.attempt(x.attempts() - 1, 0) == 2 ? 1 : 0, 0);
            x.setCodes(0, 1 << code);
            x.call(0, 7);
            Check.due("code " + code, x.attempt(x.attempts() - 1, 0), 2);
        }
        Reveal.act("a set", ORDINARY, x -> x.setCodes(3, 34), 30);
        Check.sentence(4, "s: a switch");
        Reveal.range("s", ORDINARY, (x, s) -> x.setCodes(s, 2), at(0, 30), at(3, 30));
        Reveal.range("s", FULL, (x, s) -> x.setCodes(s, 2), at(0, 30), at(7, 30));
        Check.sentence(4, "codes: the set, bit k for code k, from 0 to 62, an even number");
        Reveal.range("codes", ORDINARY, (x, codes) -> x.setCodes(2, codes), at(0, 62), at(62, 62));
        for (int codes = -70; codes <= 130; codes++) {
            CallRouter x = Scenes.switches(1);
            boolean allowed = codes >= 0 && codes <= 62 && codes % 2 == 0;
            Check.due("codes " + codes, x.setCodes(0, codes), allowed ? 30 : -1);
            Check.due("the set then", x.setCodes(0, 0), allowed ? codes : 30);
        }
        for (int codes : new int[] {1, 29, 31, 61, 63, 64, -2}) {
            Reveal.unchanged("codes " + codes, ORDINARY, x -> x.setCodes(2, codes), -1);
        }
        Check.sentence(4, "Returns the previous set; BAD if there is no such switch, or codes is not as described.");
        CallRouter x = Scenes.switches(2);
        Check.due("previous", x.setCodes(1, 0), 30);
        Check.due("previous", x.setCodes(1, 62), 0);
        Check.due("previous", x.setCodes(1, 2), 62);
        Check.due("of the other one", x.setCodes(0, 2), 30);
        Check.due("both are bad", x.setCodes(2, 63), -1);
        Reveal.unchanged("no such switch", Scenes::empty, y -> y.setCodes(0, 2), -1);
    }

    private static void setLimit() {
        Check.sentence(5, "Sets the hop limit. This is an act.");
        for (int limit = 1; limit <= 6; limit++) {
            CallRouter x = Scenes.chain(8);
            x.setLimit(limit);
            Check.due("limit " + limit, x.call(8 - limit, 5), 0);
            Check.due("limit " + limit, x.call(7 - limit, 6), -14);
        }
        Reveal.act("a limit", ORDINARY, x -> x.setLimit(1), 4);
        Check.sentence(5, "limit: 1 to 6");
        Reveal.range("limit", ORDINARY, CallRouter::setLimit, at(1, 4), at(6, 4));
        Reveal.range("limit", Scenes::empty, CallRouter::setLimit, at(1, 5), at(6, 5));
        Check.sentence(5, "Returns the previous limit; BAD if limit is not in its range.");
        CallRouter x = new CallRouter();
        int previous = 5;
        for (int limit : new int[] {1, 2, 3, 4, 5, 6, 6, 1}) {
            Check.due("previous", x.setLimit(limit), previous);
            Check.due("not in its range", x.setLimit(0), -1);
            Check.due("not in its range", x.setLimit(7), -1);
            previous = limit;
        }
    }

    private static void addRoute() {
        Check.sentence(6, "Adds a route. This is an act.");
        Reveal.act("the sixth", ORDINARY, x -> x.addRoute(1, 2, 3, 4, 5), 5);
        CallRouter x = Scenes.switches(8);
        int[] due = {7, 123, 6, 45, 45, 45, 8, 0};
        Check.due("added", x.addRoute(7, 123, 6, 45, 8), 0);
        for (int what = 0; what < 8; what++) {
            Check.due("its number " + what, x.route(0, what), due[what]);
        }
        Check.sentence(6, "Returns its number; BAD if there is no such switch, or another argument is not in its"
                + " range; FULL if there are 40 routes.");
        CallRouter y = Scenes.switches(1);
        for (int i = 0; i < 40; i++) {
            Check.due("a bad one has no number", y.addRoute(0, 0, 0, 0, 0), -1);
            Check.due("its number", y.addRoute(0, 0, 0, 0, 1), i);
        }
        Check.due("there are 40", y.addRoute(0, 0, 0, 0, 1), -3);
        Check.due("undo", y.undo(), 4);
        Check.due("room again", y.addRoute(0, 7, 0, 1, 1), 39);
        Check.due("the new one", y.route(39, 1), 7);
        Check.due("there are 40", y.addRoute(0, 0, 0, 0, 1), -3);
        Reveal.unchanged("there are 40", FULL, z -> z.addRoute(7, 999999999, 0, 1000, 20), -3);
        Reveal.unchanged("no such switch", Scenes::empty, z -> z.addRoute(0, 0, 0, 0, 1), -1);
        Check.due("all are bad", y.addRoute(-1, -1, -1, -1, -1), -1);
    }

    private static void addRouteLeavesTheOthers() {
        Check.sentence(6, "Adds a route.");
        for (int s = 0; s < 8; s++) {
            for (int next = 0; next < 8; next++) {
                CallRouter x = Scenes.chain(8);
                x.call(3, 6);
                x.call(4, 7);
                x.addRoute(next, 5, s, 1, 1 + next);
                x.addRoute(s, 5, next, 1000, 1 + s);
                for (int route = 0; route < 8; route++) {
                    int occupied = route < 3 || route == 7 ? 0 : route == 3 ? 1 : 2;
                    int[] due = {route, 0, Math.min(7, route + 1), 1, 1, 1, 20, occupied};
                    for (int what = 0; what < 8; what++) {
                        Check.due("number " + what + " of route " + route, x.route(route, what), due[what]);
                    }
                }
                Check.due("the new one", x.route(9, 0), s);
                Check.due("the new one", x.route(9, 2), next);
            }
        }
    }

    private static void addRouteArguments() {
        Check.sentence(6, "s: its switch");
        Reveal.range("s", ORDINARY, (x, s) -> x.addRoute(s, 1, 1, 1, 1), at(0, 5), at(3, 5));
        Reveal.range("s", FULL, (x, s) -> x.addRoute(s, 1, 1, 1, 1), at(0, -3), at(7, -3));
        Check.sentence(6, "prefix: its prefix, 0 to 999999999");
        Reveal.range("prefix", ORDINARY, (x, prefix) -> x.addRoute(1, prefix, 1, 1, 1), at(0, 5), at(999999999, 5));
        Reveal.range("prefix", FULL, (x, prefix) -> x.addRoute(1, prefix, 1, 1, 1), at(0, -3), at(999999999, -3));
        Check.sentence(6, "next: the next switch");
        Reveal.range("next", ORDINARY, (x, next) -> x.addRoute(1, 1, next, 1, 1), at(0, 5), at(3, 5));
        Reveal.range("next", FULL, (x, next) -> x.addRoute(1, 1, next, 1, 1), at(0, -3), at(7, -3));
        Check.sentence(6, "cost: its cost in all bands, 0 to 1000");
        Reveal.range("cost", ORDINARY, (x, cost) -> x.addRoute(1, 1, 1, cost, 1), at(0, 5), at(1000, 5));
        Reveal.range("cost", FULL, (x, cost) -> x.addRoute(1, 1, 1, cost, 1), at(0, -3), at(1000, -3));
        for (int cost : new int[] {0, 1, 999, 1000}) {
            CallRouter x = Scenes.switches(1);
            x.addRoute(0, 0, 0, cost, 1);
            for (int what = 3; what <= 5; what++) {
                Check.due("cost " + cost + " in all bands", x.route(0, what), cost);
            }
        }
        Check.sentence(6, "lines: the number of its lines, 1 to 20");
        Reveal.range("lines", ORDINARY, (x, lines) -> x.addRoute(1, 1, 1, 1, lines), at(1, 5), at(20, 5));
        Reveal.range("lines", FULL, (x, lines) -> x.addRoute(1, 1, 1, 1, lines), at(1, -3), at(20, -3));
        for (int lines = 1; lines <= 20; lines++) {
            CallRouter x = Scenes.switches(1);
            x.addRoute(0, 0, 0, 1, lines);
            Check.due("lines", x.route(0, 6), lines);
        }
    }

    private static void setCost() {
        Check.sentence(7, "Sets the cost of a route in a band. This is an act.");
        for (int route = 0; route < 3; route++) {
            for (int band = 0; band < 3; band++) {
                CallRouter x = Scenes.chain(3);
                x.setCost(route, band, 50);
                for (int i = 0; i < 9; i++) {
                    Check.due("route " + i / 3 + ", band " + i % 3, x.route(i / 3, 3 + i % 3),
                            i == 3 * route + band ? 50 : 1);
                }
            }
        }
        Reveal.act("a cost", ORDINARY, x -> x.setCost(4, 1, 1000), 4);
        Check.sentence(7, "route: a route");
        Reveal.range("route", ORDINARY, (x, route) -> x.setCost(route, 0, 7), at(0, 5), at(4, 4));
        Reveal.range("route", FULL, (x, route) -> x.setCost(route, 2, 7), at(0, 0), at(39, 39));
        Check.sentence(7, "band: 0 to 2");
        Reveal.range("band", ORDINARY, (x, band) -> x.setCost(0, band, 7), at(0, 5), at(2, 8));
        Reveal.range("band", FULL, (x, band) -> x.setCost(39, band, 7), at(0, 39), at(2, 39));
        Check.sentence(7, "cost: 0 to 1000");
        Reveal.range("cost", ORDINARY, (x, cost) -> x.setCost(0, 2, cost), at(0, 8), at(1000, 8));
        Check.sentence(7, "Returns the previous cost; BAD if there is no such route, or an argument is not in its range.");
        CallRouter x = Scenes.chain(1);
        Check.due("previous", x.setCost(0, 1, 1000), 1);
        Check.due("previous", x.setCost(0, 1, 0), 1000);
        Check.due("previous", x.setCost(0, 1, 3), 0);
        Check.due("of another band", x.setCost(0, 2, 3), 1);
        Check.due("all are bad", x.setCost(1, 3, 1001), -1);
        Reveal.unchanged("no such route", Scenes::empty, y -> y.setCost(0, 0, 0), -1);
        Reveal.unchanged("no route of a switch", () -> Scenes.switches(8), y -> y.setCost(0, 0, 0), -1);
    }

    private static void port() {
        Check.sentence(8, "Ports a number to a switch.");
        CallRouter x = Scenes.switches(8);
        for (int s = 0; s < 8; s++) {
            x.setLookup(s, true);
            x.port(50 + s, s);
        }
        for (int s = 0; s < 8; s++) {
            Check.due("it ends there", x.call(s, 50 + s), s);
            Check.due("not at another one", x.call((s + 1) % 8, 50 + s), -11);
        }
        Check.sentence(8, "(A number that is ported already is ported to this switch then.) This is an act.");
        CallRouter y = Scenes.switches(2);
        y.setLookup(0, true);
        y.setLookup(1, true);
        y.port(5, 0);
        y.port(5, 1);
        Check.due("no longer there", y.call(0, 5), -11);
        Check.due("there", y.call(1, 5), 0);
        y.port(5, 0);
        Check.due("one number", y.unport(5), 0);
        Check.due("none", y.unport(5), -9);
        Reveal.act("a number", ORDINARY, z -> z.port(8, 0), -9);
        Reveal.act("ported already", ORDINARY, z -> z.port(70, 0), 2);
        Check.sentence(8, "number: 1 to 999999999");
        Reveal.range("number", ORDINARY, (z, number) -> z.port(number, 0), at(1, -9), at(999999999, -9));
        Reveal.range("number", FULL, (z, number) -> z.port(number, 0), at(1, -3), at(999999999, -3));
        Check.sentence(8, "s: a switch");
        Reveal.range("s", ORDINARY, (z, s) -> z.port(5, s), at(0, 3), at(3, 3));
        Reveal.range("s", FULL, (z, s) -> z.port(1000, s), at(0, 0), at(7, 0));
        Reveal.range("s", FULL, (z, s) -> z.port(5, s), at(0, -3), at(7, -3));
    }

    private static void portFull() {
        Check.sentence(8, "Returns the switch to which it was ported before; NONE if it was not ported; BAD if there"
                + " is no such switch, or number is not in its range; FULL if 30 numbers are ported, and this one is not.");
        CallRouter x = Scenes.switches(8);
        for (int i = 0; i < 30; i++) {
            Check.due("not ported", x.port(1 + i, i % 8), -9);
        }
        Check.due("the 31st", x.port(31, 0), -3);
        for (int i = 0; i < 30; i++) {
            Check.due("ported before", x.port(1 + i, 7), i % 8);
        }
        Check.due("the 31st", x.port(31, 0), -3);
        Check.due("room again", x.unport(1), 7);
        Check.due("not ported", x.port(31, 0), -9);
        Check.due("the 31st", x.port(1, 0), -3);
        Check.due("ported before", x.port(31, 5), 0);
        Check.due("both are bad", x.port(0, 8), -1);
        Reveal.unchanged("the 31st", FULL, y -> y.port(999999999, 7), -3);
        Reveal.act("one of the 30", FULL, y -> y.port(1029, 0), 5);
        Reveal.unchanged("no such switch", Scenes::empty, y -> y.port(5, 0), -1);
    }

    private static void unport() {
        Check.sentence(9, "Ends the porting of a number. This is an act.");
        CallRouter x = Scenes.switches(1);
        x.setLookup(0, true);
        x.port(5, 0);
        x.port(6, 0);
        x.unport(5);
        Check.due("no longer ported", x.call(0, 5), -11);
        Check.due("the other one is", x.call(0, 6), 0);
        Reveal.act("the first one", ORDINARY, y -> y.unport(5), 3);
        Reveal.act("the last one", ORDINARY, y -> y.unport(70), 2);
        Check.sentence(9, "number: 1 to 999999999");
        for (int number : new int[] {1, 999999999}) {
            CallRouter y = Scenes.switches(1);
            y.port(number, 0);
            Check.due("unport of " + number, y.unport(number), 0);
        }
        Reveal.range("number", ORDINARY, CallRouter::unport, at(1, -9), at(999999999, -9));
        Check.sentence(9, "Returns the switch to which it was ported; BAD if number is not in its range; NONE if it"
                + " was not ported (this is an error, too).");
        for (int i = 0; i < 30; i++) {
            CallRouter y = Scenes.fullNetwork();
            Check.due("ported to", y.unport(1000 + i), i % 8);
            Check.due("not ported", y.unport(1000 + i), -9);
            for (int k = 0; k < 30; k++) {
                if (k != i) {
                    Check.due("the others are", y.unport(1000 + k), k % 8);
                }
            }
        }
        Reveal.unchanged("not ported", ORDINARY, y -> y.unport(8), -9);
        Reveal.unchanged("not ported", FULL, y -> y.unport(5), -9);
        Reveal.unchanged("not ported", Scenes::empty, y -> y.unport(1), -9);
    }
}
