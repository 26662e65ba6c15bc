/** The edges that the document names under A CALL, from its arrival to its connection. */
final class CallEdges {
    private CallEdges() {
    }

    static void look() {
        eachAttemptHasItsOwn();
        loops();
        loopsComeFirst();
        hops();
        hopsBeforeMarks();
        marking();
        markedOnce();
        endsByItsMark();
        longestPrefixes();
        noRoute();
        order();
        attempt31();
        attempt31UnderWay();
        attempt31ComesFirst();
        serving();
        noLines();
        linesAreFreeAgain();
        goingOn();
        eachSwitchHasItsSet();
        lastRoute();
        keptLines();
        busyNumbers();
        firstHopLimit();
        marksOfFurtherAttempts();
    }

    /** The trace as routes and codes, one behind the other. */
    static void dueTrace(String name, CallRouter x, int... routesAndCodes) {
        int size = routesAndCodes.length / 2;
        Check.due(name + ": attempts", x.attempts(), size);
        for (int i = 0; i < size; i++) {
            Check.due(name + ": route of attempt " + i, x.attempt(i, 0), routesAndCodes[2 * i]);
            Check.due(name + ": code of attempt " + i, x.attempt(i, 1), routesAndCodes[2 * i + 1]);
        }
        Check.due(name + ": no more attempts", x.attempt(size, 0), -1);
    }

    static void dueWay(String name, CallRouter x, int place, int... routes) {
        for (int i = 0; i < routes.length; i++) {
            Check.due(name + ": way " + i, x.way(place, i), routes[i]);
        }
        Check.due(name + ": no more way", x.way(place, routes.length), -9);
    }

    private static void eachAttemptHasItsOwn() {
        Check.sentence(0, "A CALL to a number is placed at a switch; it carries the sequence of digits, whether it is"
                + " marked, and the switches at which it has been (each attempt has its own). When it arrives at"
                + " switch s, this happens:");
        CallRouter x = Scenes.switches(3);
        x.addRoute(0, 0, 1, 1, 1);
        x.addRoute(0, 0, 2, 2, 1);
        x.addRoute(1, 0, 2, 1, 1);
        x.addRoute(2, 0, 1, 1, 1);
        x.addRoute(2, 0, 2, 2, 1);
        x.call(0, 6);
        x.end(0);
        x.setLimit(2);
        Check.due("switch 1 does not count for the second route", x.call(0, 5), 0);
        dueTrace("switch 1 was left", x, 0, 4, 2, 4, 1, 0, 3, 4, 4, 0);
        x.end(0);
        x.setLimit(6);
        x.setCost(4, 1, 3);
        x.addRoute(1, 5, 0, 0, 1);
        Check.due("switch 1 can be come to again", x.call(0, 5), 0);
        dueTrace("switch 1 twice", x, 0, 3, 5, 3, 1, 0, 3, 3, 5, 3, 4, 0);
    }

    private static void loops() {
        Check.sentence(0, "If it has been at s, its code is 3 (loop).");
        for (int size = 2; size <= 5; size++) {
            for (int back = 0; back < size - 1; back++) {
                CallRouter x = Scenes.switches(size);
                for (int s = 0; s < size; s++) {
                    x.addRoute(s, 0, s < size - 1 ? s + 1 : back, 1, 1);
                }
                Check.due("from " + size + " back to " + back, x.call(0, 5), -13);
                Check.due("attempts", x.attempts(), size);
                Check.due("the last one", x.attempt(size - 1, 1), 3);
            }
        }
    }

    private static void loopsComeFirst() {
        Check.sentence(0, "Otherwise, if it has been");
        for (int limit = 2; limit <= 6; limit++) {
            CallRouter x = Scenes.switches(limit);
            for (int s = 0; s < limit; s++) {
                x.addRoute(s, 0, (s + 1) % limit, 1, 1);
            }
            x.setLimit(limit);
            Check.due("a loop at the hop limit " + limit, x.call(0, 5), -13);
            x.setLimit(limit - 1);
            Check.due("too many hops before the loop", x.call(0, 5), -14);
        }
    }

    private static void hops() {
        Check.sentence(0, "Otherwise, if it has been at as many switches as the hop limit says, its code is 4 (too"
                + " many hops).");
        for (int limit = 1; limit <= 6; limit++) {
            CallRouter x = Scenes.chain(limit);
            x.setLimit(limit);
            Check.due("a way of as many switches as the limit " + limit, x.call(0, 5), 0);
            Check.due("its attempts", x.attempts(), limit);
            CallRouter y = Scenes.chain(limit + 1);
            y.setLimit(limit);
            Check.due("one more than the limit " + limit, y.call(0, 5), -14);
            Check.due("its attempts", y.attempts(), limit);
            Check.due("from the next switch on", y.call(1, 5), 0);
        }
    }

    private static void hopsBeforeMarks() {
        Check.sentence(0, "as many switches as the hop limit says, its code is 4");
        CallRouter x = Scenes.switches(2);
        x.setLookup(0, true);
        x.port(5, 1);
        x.addRoute(0, 0, 1, 1, 1);
        x.setLimit(1);
        Check.due("too many hops where the mark would end it", x.call(0, 5), -14);
        x.setLimit(2);
        Check.due("just not too many", x.call(0, 5), 0);
        CallRouter y = Scenes.switches(2);
        y.setLookup(1, true);
        y.port(5, 0);
        y.addRoute(0, 0, 1, 1, 1);
        y.addRoute(1, 0, 0, 1, 1);
        Check.due("a loop where the mark would end it", y.call(0, 5), -13);
        Check.due("no loop", y.call(1, 5), 0);
    }

    private static void marking() {
        Check.sentence(0, "If it is not marked, s looks numbers up, and the number is ported, it becomes marked, as"
                + " described under NUMBERS.");
        for (int looks = 0; looks < 2; looks++) {
            for (int ported = 0; ported < 2; ported++) {
                CallRouter x = Scenes.switches(2);
                x.addRoute(0, 9901, 1, 0, 1);
                x.addRoute(0, 4, 0, 0, 1);
                x.setLookup(0, looks == 1);
                x.port(ported == 1 ? 45 : 46, 1);
                Check.due("a call", x.call(0, 45), 0);
                Check.due("looks " + looks + ", ported " + ported, x.way(0, 0), looks == 1 && ported == 1 ? 0 : 1);
            }
        }
    }

    private static void markedOnce() {
        Check.sentence(0, "If it is not marked,");
        CallRouter x = Scenes.switches(4);
        x.setLookup(0, true);
        x.setLookup(1, true);
        x.port(45, 3);
        x.port(990345, 2);
        x.addRoute(0, 990345, 1, 0, 1);
        x.addRoute(1, 990345, 3, 0, 1);
        Check.due("a second switch that looks up", x.call(0, 45), 0);
        dueWay("marked once", x, 0, 0, 1);
        Check.due("what looks marked is looked up", x.call(2, 990345), -11);
        x.setLookup(2, true);
        Check.due("what looks marked is looked up", x.call(2, 990345), 1);
        dueTrace("it ends by its mark", x);
    }

    private static void endsByItsMark() {
        Check.sentence(0, "If it is marked with the digit s, it ends here: its code is 5 if the number is busy, and 0"
                + " (connected) otherwise.");
        for (int s = 0; s < 8; s++) {
            CallRouter x = Scenes.switches(8);
            x.addRoute(s, 0, s, 0, 1);
            x.port(5, s);
            Check.due("not looked up: a route is tried", x.call(s, 5), 0);
            dueWay("a route", x, 0, 0);
            x.end(0);
            x.setLookup(s, true);
            Check.due("looked up: it ends at once", x.call(s, 5), 0);
            dueTrace("no attempt", x);
            dueWay("no route", x, 0);
            Check.due("busy", x.call(s, 5), -15);
            dueTrace("busy without an attempt", x);
            int other = (s + 1) % 8;
            x.addRoute(other, 0, s, 0, 1);
            x.setLookup(other, true);
            Check.due("busy behind a route", x.call(other, 5), -15);
            dueTrace("busy behind a route", x, 1, 5);
            Check.due("it ends, and nothing is owed", x.end(0), 0);
        }
        CallRouter y = Scenes.switches(2);
        y.addRoute(0, 0, 1, 0, 1);
        Check.due("a number that looks marked does not end", y.call(0, 99015), -11);
        dueTrace("a number that looks marked", y, 0, 1);
    }

    private static void longestPrefixes() {
        Check.sentence(0, "Otherwise the routes of s are taken whose prefixes are the longest ones with which its"
                + " sequence of digits begins (all routes of s with this longest prefix).");
        CallRouter x = Scenes.switches(2);
        x.addRoute(0, 12, 1, 0, 1);
        x.addRoute(0, 123, 1, 9, 1);
        x.addRoute(0, 0, 1, 0, 1);
        x.addRoute(1, 1234, 0, 0, 1);
        x.addRoute(0, 123, 1, 8, 1);
        x.addRoute(0, 1235, 1, 0, 1);
        x.call(0, 1234);
        dueTrace("all with the longest one, and no others", x, 4, 3, 3, 3, 1, 3, 3, 3);
        Check.due("as long as the number", x.choice(0, 1235, 0), 5);
        Check.due("longer than the number", x.choice(0, 123, 0), 4);
        Check.due("shorter ones", x.choice(0, 122, 0), 0);
        Check.due("the empty one", x.choice(0, 13, 0), 2);
        Check.due("only its own", x.choice(1, 1235, 0), -9);
    }

    private static void noRoute() {
        Check.sentence(0, "If there are none, its code is 1 (no route).");
        CallRouter x = Scenes.switches(2);
        Check.due("a switch without routes", x.call(0, 5), -11);
        dueTrace("no attempt", x);
        x.addRoute(0, 6, 0, 0, 1);
        x.addRoute(1, 0, 1, 0, 1);
        Check.due("a switch with routes of other prefixes", x.call(0, 5), -11);
        dueTrace("no attempt", x);
        x.addRoute(1, 5, 0, 0, 1);
        Check.due("behind a route", x.call(1, 5), -11);
        dueTrace("behind a route", x, 2, 1);
    }

    private static void order() {
        Check.sentence(0, "They are tried in the order of their costs in the present band, the least one first, those"
                + " with equal costs in the order of their numbers.");
        int[] times = {480, 0, 7200};
        for (int band = 0; band < 3; band++) {
            CallRouter x = Scenes.switches(2);
            for (int i = 0; i < 5; i++) {
                x.addRoute(0, 0, 1, 500, 1);
            }
            x.setCost(4, band, 0);
            x.setCost(3, band, 1000);
            x.setCost(2, (band + 1) % 3, 0);
            x.setCost(1, (band + 2) % 3, 1000);
            Scenes.passTo(x, times[band]);
            Check.due("no route there", x.call(0, 5), -11);
            dueTrace("order in band " + band, x, 4, 1, 0, 1, 1, 1, 2, 1, 3, 1);
        }
    }

    /** So many routes that fail, and one that serves at the end. */
    private static CallRouter failing(int count) {
        CallRouter x = Scenes.switches(2);
        for (int i = 0; i < count; i++) {
            x.addRoute(0, 0, 1, 0, 1);
        }
        x.addRoute(0, 0, 0, 1, 1);
        return x;
    }

    private static void attempt31() {
        Check.sentence(0, "Trying a route: this is an attempt. If it would be the 31st attempt of the call, the code"
                + " is 6, and the whole call ends with this code,");
        CallRouter x = failing(29);
        Check.due("the 30th attempt is made", x.call(0, 5), 0);
        Check.due("attempts", x.attempts(), 30);
        Check.due("the 30th", x.attempt(29, 0), 29);
        Check.due("its code", x.attempt(29, 1), 0);
        CallRouter y = failing(30);
        Check.due("the 31st attempt is not made", y.call(0, 5), -16);
        Check.due("attempts", y.attempts(), 30);
        Check.due("the 30th", y.attempt(29, 0), 29);
        Check.due("its code", y.attempt(29, 1), 1);
        Check.due("no 31st", y.attempt(30, 0), -1);
        Check.due("not connected", y.calls(), 0);
        y.setCost(30, 1, 0);
        y.setCost(29, 1, 1);
        Check.due("the next call has its own attempts", y.call(0, 5), 0);
        Check.due("the next call has its own attempts", y.attempts(), 30);
    }

    private static void attempt31UnderWay() {
        Check.sentence(0, "and the whole call ends with this code, as all attempts do that are under way.");
        CallRouter x = Scenes.switches(4);
        x.addRoute(0, 0, 1, 0, 1);
        x.addRoute(0, 0, 0, 1, 1);
        x.addRoute(1, 0, 2, 0, 1);
        x.addRoute(1, 0, 1, 1, 1);
        for (int i = 0; i < 29; i++) {
            x.addRoute(2, 0, 3, 0, 1);
        }
        for (int s = 0; s < 4; s++) {
            x.setCodes(s, 62);
        }
        Check.due("no other route is tried then", x.call(0, 5), -16);
        Check.due("attempts", x.attempts(), 30);
        Check.due("under way", x.attempt(0, 1), 6);
        Check.due("under way", x.attempt(1, 1), 6);
        for (int i = 2; i < 30; i++) {
            Check.due("ended before", x.attempt(i, 1), 1);
        }
        for (int i = 0; i < 33; i++) {
            Check.due("its lines are free", x.route(i, 7), 0);
        }
    }

    private static void attempt31ComesFirst() {
        Check.sentence(0, "If it would be the 31st attempt of the call, the code is 6");
        CallRouter x = failing(30);
        x.addSwitch();
        x.addRoute(2, 0, 2, 0, 1);
        Check.due("a number becomes busy", x.call(2, 5), 0);
        Check.due("the 31st attempt would find it busy", x.call(0, 5), -16);
        CallRouter y = Scenes.switches(3);
        y.addRoute(0, 0, 2, 0, 1);
        y.addRoute(2, 0, 2, 0, 1);
        Check.due("a line is occupied", y.call(0, 8), 0);
        y.setCost(0, 1, 1);
        for (int i = 0; i < 30; i++) {
            y.addRoute(0, 0, 1, 0, 1);
        }
        Check.due("the 31st attempt would find no line", y.call(0, 5), -16);
        y.setCost(31, 1, 2);
        Check.due("the 30th attempt finds none", y.call(0, 5), -16);
        Check.due("the 30th attempt finds none", y.attempt(29, 1), 2);
    }

    private static void serving() {
        Check.sentence(0, "If the route serves its numbers, the code is 5 if the number is busy, and 0 otherwise.");
        CallRouter x = Scenes.switches(1);
        x.addRoute(0, 0, 0, 0, 1);
        Check.due("served", x.call(0, 5), 0);
        dueTrace("served", x, 0, 0);
        Check.due("busy", x.call(0, 5), -15);
        dueTrace("busy", x, 0, 5);
        Check.due("lines do not matter", x.call(0, 6), 1);
        dueTrace("lines do not matter", x, 0, 0);
    }

    private static void noLines() {
        Check.sentence(0, "If all its lines are occupied, the code is 2 (no lines).");
        for (int lines = 1; lines <= 9; lines++) {
            CallRouter x = Scenes.switches(2);
            x.addRoute(0, 0, 1, 0, lines);
            x.addRoute(1, 0, 1, 0, 1);
            for (int i = 0; i < lines; i++) {
                Check.due("line " + i, x.call(0, 10 + i), i);
            }
            Check.due("no line", x.call(0, 5), -12);
            dueTrace("no line", x, 0, 2);
            Check.due("not even to a busy number", x.call(0, 10), -12);
            x.end(lines - 1);
            Check.due("one line", x.call(0, 5), lines - 1);
        }
    }

    private static void linesAreFreeAgain() {
        Check.sentence(0, "Otherwise a line of it is occupied, and the call arrives at the next switch, having been"
                + " at s; if its code there is not 0, the line is free again.");
        for (int code = 1; code <= 5; code++) {
            CallRouter x = NetworkEdges.failingFirst(code);
            int occupied = x.route(0, 7);
            x.setCodes(0, 0);
            long before = x.fingerprint();
            Check.due("code " + code, x.call(0, 7), -10 - code);
            Check.due("lines behind code " + code, x.route(0, 7), occupied);
            Check.due("all lines behind code " + code, x.fingerprint(), before);
            x.setCodes(0, 62);
            x.call(0, 7);
            Check.due("and if another route is taken", x.route(0, 7), occupied);
        }
        CallRouter y = Scenes.chain(3);
        y.call(0, 5);
        Check.due("a line is occupied", y.route(0, 7), 1);
        Check.due("a line is occupied", y.route(1, 7), 1);
    }

    private static void goingOn() {
        Check.sentence(0, "If the code of a route is 0 or 6, or is not in the set of s,");
        for (int code = 1; code <= 5; code++) {
            for (int set = 0; set <= 62; set += 2) {
                CallRouter x = NetworkEdges.failingFirst(code);
                int calls = x.calls();
                x.setCodes(0, set);
                boolean goesOn = (set >> code & 1) == 1;
                int due = !goesOn ? -10 - code : code == 5 ? -15 : calls;
                Check.due("code " + code + " with the set " + set, x.call(0, 7), due);
                Check.due("the latest route", x.attempt(x.attempts() - 1, 0) == 2 ? 1 : 0, goesOn ? 1 : 0);
            }
        }
        CallRouter y = Scenes.switches(1);
        y.addRoute(0, 0, 0, 0, 1);
        y.addRoute(0, 0, 0, 0, 1);
        y.setCodes(0, 62);
        Check.due("connected by the first route", y.call(0, 5), 0);
        dueTrace("no other route is tried", y, 0, 0);
    }

    /** From s to t, where all routes fail; s goes on, or t, or neither. */
    private static void eachSwitchHasItsSet() {
        Check.sentence(0, "or is not in the set of s");
        for (int s = 0; s < 8; s++) {
            int t = (s + 3) % 8;
            for (int going = 0; going < 4; going++) {
                CallRouter x = Scenes.switches(8);
                x.addRoute(s, 0, t, 0, 1);
                x.addRoute(s, 0, t, 0, 1);
                x.addRoute(t, 0, (t + 1) % 8, 0, 1);
                x.addRoute(t, 0, (t + 1) % 8, 0, 1);
                for (int other = 0; other < 8; other++) {
                    x.setCodes(other, other == s && going % 2 == 0 || other == t && going < 2 ? 0 : 62);
                }
                Check.due("no route behind t", x.call(s, 5), -11);
                int tries = going < 2 ? 2 : 3;
                Check.due("attempts from " + s + " by " + t, x.attempts(), going % 2 == 0 ? tries : 2 * tries);
            }
        }
    }

    private static void lastRoute() {
        Check.sentence(0, "or the route was the last one, it is the code of the call at s; otherwise the next route"
                + " is tried.");
        CallRouter x = Scenes.switches(3);
        x.addRoute(0, 0, 1, 0, 1);
        x.addRoute(0, 0, 2, 1, 1);
        x.addRoute(2, 0, 0, 1, 1);
        Check.due("the code of the last one", x.call(0, 5), -13);
        dueTrace("the code of the last one", x, 0, 1, 1, 3, 2, 3);
        x.setCost(0, 1, 2);
        Check.due("the code of the last one", x.call(0, 5), -11);
        dueTrace("the code of the last one", x, 1, 3, 2, 3, 0, 1);
        x.setCodes(0, 0);
        Check.due("the code of the only one", x.call(0, 5), -13);
        dueTrace("the code of the only one", x, 1, 3, 2, 3);
    }

    private static void keptLines() {
        Check.sentence(0, "A call with the code 0 is connected; it keeps the lines that are occupied by it.");
        CallRouter x = Scenes.chain(5);
        x.addRoute(0, 6, 4, 0, 1);
        Check.due("connected", x.call(0, 5), 0);
        for (int route = 0; route < 6; route++) {
            Check.due("lines of route " + route, x.route(route, 7), route < 4 ? 1 : 0);
        }
        x.pass(10080);
        Check.due("kept", x.route(0, 7), 1);
        Check.due("another one", x.call(0, 51), 1);
        Check.due("two lines", x.route(3, 7), 2);
        x.end(0);
        Check.due("one line", x.route(3, 7), 1);
    }

    private static void busyNumbers() {
        Check.sentence(0, "A number is busy if a call to it is connected.");
        CallRouter x = Scenes.switches(2);
        x.addRoute(0, 0, 0, 0, 1);
        x.addRoute(1, 0, 1, 0, 1);
        for (int i = 0; i < 9; i++) {
            Check.due("not busy", x.call(0, 100 + i), i);
        }
        for (int i = 0; i < 9; i++) {
            Check.due("busy at its switch", x.call(0, 100 + i), -15);
            Check.due("busy at another one", x.call(1, 100 + i), -15);
        }
        Check.due("not busy", x.call(1, 10), 9);
        x.end(4);
        Check.due("no longer busy", x.call(1, 104), 4);
    }

    private static void firstHopLimit() {
        Check.sentence(0, "The hop limit is 5 initially.");
        Check.due("five switches", Scenes.chain(5).call(0, 5), 0);
        Check.due("six switches", Scenes.chain(6).call(0, 5), -14);
        Check.due("told", new CallRouter().setLimit(6), 5);
    }

    private static void marksOfFurtherAttempts() {
        Check.sentence(0, "(When a call is looked up, its digits stay marked for the further attempts of this call"
                + " from s on, but not for those of the switches before s.)");
        CallRouter x = Scenes.switches(5);
        x.setLookup(1, true);
        x.port(5, 4);
        x.addRoute(0, 0, 1, 0, 1);
        x.addRoute(0, 0, 3, 1, 1);
        x.addRoute(1, 9904, 2, 0, 1);
        x.addRoute(1, 9904, 3, 1, 1);
        x.addRoute(2, 5, 2, 0, 1);
        x.addRoute(3, 9904, 2, 0, 1);
        x.addRoute(3, 5, 3, 0, 1);
        Check.due("plain again at switch 0", x.call(0, 5), 0);
        dueTrace("marked from switch 1 on", x, 0, 1, 2, 1, 3, 1, 5, 1, 1, 0, 6, 0);
        dueWay("plain again at switch 0", x, 0, 1, 6);
    }
}
