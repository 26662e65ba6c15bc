/** The edges that the document names under SWITCHES and ROUTES. */
final class NetworkEdges {
    private NetworkEdges() {
    }

    static void look() {
        eightSwitches();
        newSwitches();
        firstCodes();
        fortyRoutes();
        prefixesOf0To9Digits();
        costsByBand();
        numbersOfLines();
        servingRoutes();
        servingRoutesInOrder();
        prefixesAsInts();
    }

    private static void eightSwitches() {
        Check.sentence(0, "There are at most 8 switches, numbered from 0.");
        CallRouter x = new CallRouter();
        for (int s = 0; s < 8; s++) {
            Check.due("not yet there", x.owes(s, s), -1);
            Check.due("addSwitch()", x.addSwitch(), s);
            Check.due("there", x.owes(s, s), 0);
        }
        Check.due("the ninth", x.addSwitch(), -3);
        Check.due("no ninth", x.owes(8, 8), -1);
        for (int s = 0; s < 8; s++) {
            Check.due("each can have a route", x.addRoute(s, 0, (s + 1) % 8, 1, 1), 2 * s);
            Check.due("each can serve", x.addRoute(s, 7, s, 0, 1), 2 * s + 1);
        }
    }

    private static void newSwitches() {
        Check.sentence(0, "A switch looks numbers up (initially it does not), and it has a set of codes for which it"
                + " goes on to another route (initially the codes 1 to 4).");
        CallRouter x = Scenes.switches(8);
        for (int s = 0; s < 8; s++) {
            Check.due("lookup", x.setLookup(s, true), 0);
            Check.due("codes", x.setCodes(s, 62), 2 + 4 + 8 + 16);
        }
        for (int s = 0; s < 8; s++) {
            Check.due("lookup, each its own", x.setLookup(s, s % 2 == 0), 1);
            Check.due("codes, each its own", x.setCodes(s, 2 * s), 62);
        }
        for (int s = 0; s < 8; s++) {
            Check.due("lookup, each its own", x.setLookup(s, true), s % 2 == 0 ? 1 : 0);
            Check.due("codes, each its own", x.setCodes(s, 0), 2 * s);
        }
        CallRouter y = Scenes.switches(2);
        y.port(5, 1);
        y.addRoute(0, 9901, 1, 0, 1);
        Check.due("not looked up at first", y.call(0, 5), -11);
    }

    /** Route 0 of switch 0 fails with this code, route 1 leads to a switch that serves. */
    static CallRouter failingFirst(int code) {
        CallRouter x = Scenes.switches(5);
        x.addRoute(0, 0, 1, 0, 1);
        x.addRoute(0, 0, 2, 1, 1);
        x.addRoute(2, 0, 2, 0, 1);
        x.addRoute(4, 0, 4, 0, 1);
        if (code == 2) {
            x.addRoute(1, 8, 1, 0, 1);
            x.call(0, 8);
        } else if (code == 3) {
            x.addRoute(1, 0, 0, 0, 1);
        } else if (code == 4) {
            x.addRoute(1, 0, 3, 0, 1);
            x.setLimit(2);
        } else if (code == 5) {
            x.addRoute(1, 0, 1, 0, 1);
            x.call(4, 7);
        }
        return x;
    }

    private static void firstCodes() {
        Check.sentence(0, "(initially the codes 1 to 4)");
        for (int code = 1; code <= 5; code++) {
            CallRouter x = failingFirst(code);
            int calls = x.calls();
            Check.due("code " + code, x.call(0, 7), code == 5 ? -15 : calls);
            Check.due("code " + code + " of the first route", x.attempt(0, 1), code);
            Check.due("the latest route", x.attempt(x.attempts() - 1, 0), code == 5 ? 4 : 2);
        }
    }

    private static void fortyRoutes() {
        Check.sentence(0, "There are at most 40 routes, numbered from 0.");
        CallRouter x = Scenes.switches(1);
        for (int i = 0; i < 40; i++) {
            Check.due("not yet there", x.route(i, 0), -1);
            Check.due("addRoute()", x.addRoute(0, i, 0, i, 1 + i / 2), i);
            Check.due("there", x.route(i, 1), i);
        }
        Check.due("the 41st", x.addRoute(0, 40, 0, 1, 1), -3);
        Check.due("no 41st", x.route(40, 0), -1);
        Check.due("the last one is taken", x.choice(0, 399, 0), 39);
        Check.due("and can be changed", x.setCost(39, 2, 1000), 39);
    }

    private static void prefixesOf0To9Digits() {
        Check.sentence(0, "A route belongs to a switch, and has a prefix (a sequence of 0 to 9 digits), a next switch,");
        CallRouter x = Scenes.switches(2);
        int prefix = 0;
        for (int length = 0; length <= 9; length++) {
            prefix = 10 * prefix + length;
            Check.due("a prefix of " + length + " digits", x.addRoute(1, prefix, 1, 0, 1), length);
        }
        Check.due("a prefix of 10 digits", x.addRoute(1, 1234567890, 1, 0, 1), -1);
        int number = 0;
        for (int length = 1; length <= 9; length++) {
            number = 10 * number + length;
            Check.due("a number of " + length + " digits", x.choice(1, number, 0), length);
            Check.due("no other prefix", x.choice(1, number, 1), -9);
            Check.due("not of the other switch", x.choice(0, number, 0), -9);
        }
        Check.due("no digit is like it", x.choice(1, 2, 0), 0);
        Check.due("eight digits are like it", x.choice(1, 123456788, 0), 8);
        Check.due("its switch", x.route(9, 0), 1);
        Check.due("its next switch", x.route(9, 2), 1);
    }

    private static void costsByBand() {
        Check.sentence(0, "a cost per minute for each band,");
        int[] times = {480, 0, 7200};
        for (int band = 0; band < 3; band++) {
            CallRouter x = Scenes.chain(2);
            for (int i = 0; i < 3; i++) {
                x.setCost(0, i, 10 + i);
            }
            Scenes.passTo(x, times[band]);
            Check.due("band", x.band(), band);
            Check.due("cost of the band", x.cheapest(0, 5), 10 + band);
            x.call(0, 5);
            Check.due("cost of a minute", x.end(0), 10 + band);
        }
    }

    private static void numbersOfLines() {
        Check.sentence(0, "and a number of lines.");
        for (int lines = 1; lines <= 20; lines++) {
            CallRouter x = Scenes.switches(2);
            x.addRoute(0, 0, 1, 0, lines);
            x.addRoute(1, 0, 1, 0, 1);
            Check.due("lines", x.route(0, 6), lines);
            for (int i = 0; i < Math.min(lines, 10); i++) {
                Check.due("occupied", x.route(0, 7), i);
                Check.due("a line is free", x.call(0, 1 + i), i);
            }
            Check.due("all are occupied", x.call(0, 99), lines < 10 ? -12 : -3);
            Check.due("not more than there are", x.route(0, 7), Math.min(lines, 10));
        }
    }

    private static void servingRoutes() {
        Check.sentence(0, "If the next switch is the switch itself, the route serves its numbers: calls end there;"
                + " such a route occupies no lines, and nothing is owed for it, whatever its costs are");
        for (int cost : new int[] {0, 1, 1000}) {
            CallRouter x = Scenes.switches(1);
            x.addRoute(0, 0, 0, cost, 1);
            for (int i = 0; i < 10; i++) {
                Check.due("one line is enough", x.call(0, 1 + i), i);
                Check.due("none is occupied", x.route(0, 7), 0);
                Check.due("it ends the way", x.way(i, 0), 0);
                Check.due("it ends the way", x.way(i, 1), -9);
            }
            x.pass(10080);
            Check.due("nothing is owed", x.end(9), 0);
            Check.due("nothing is owed", x.owes(0, 0), 0);
            Check.due("none is freed", x.route(0, 7), 0);
            Check.due("it counts nothing", x.cheapest(0, 5), 0);
        }
    }

    private static void servingRoutesInOrder() {
        Check.sentence(0, "(which count in the order in which routes are tried, as those of other routes do).");
        for (int cost = 499; cost <= 501; cost++) {
            CallRouter x = Scenes.switches(2);
            x.addRoute(0, 0, 1, 500, 1);
            x.addRoute(0, 0, 0, cost, 1);
            x.addRoute(0, 0, 1, 500, 1);
            int place = cost < 500 ? 0 : cost == 500 ? 1 : 2;
            Check.due("the place of a cost of " + cost, x.choice(0, 5, place), 1);
            Check.due("is connected", x.call(0, 5), 0);
            Check.due("attempts before it", x.attempts(), place + 1);
            Check.due("it was the last one", x.attempt(place, 0), 1);
        }
    }

    private static void prefixesAsInts() {
        Check.sentence(0, "A prefix is told as an int: 0 for the empty one, otherwise the number with these digits"
                + " (no prefix begins with the digit 0).");
        CallRouter x = Scenes.switches(1);
        int[] prefixes = {0, 1, 9, 10, 100, 99999999, 100000000, 999999999};
        for (int i = 0; i < prefixes.length; i++) {
            Check.due("added", x.addRoute(0, prefixes[i], 0, 0, 1), i);
            Check.due("told", x.route(i, 1), prefixes[i]);
        }
        Check.due("0 is the empty one", x.choice(0, 2, 0), 0);
        Check.due("1 is one digit", x.choice(0, 11, 0), 1);
        Check.due("10 is two", x.choice(0, 101, 0), 3);
        Check.due("100 is three", x.choice(0, 100, 0), 4);
        Check.due("100000000 is nine", x.choice(0, 100000000, 0), 6);
        Check.due("99999999 is eight", x.choice(0, 999999990, 0), 5);
        Check.due("999999999 is nine", x.choice(0, 999999999, 0), 7);
    }
}
