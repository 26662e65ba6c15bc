import java.util.function.Supplier;

/** The edges of promise 23: cheapest. */
final class CheapestEdges {
    private static final Supplier<CallRouter> ORDINARY = Scenes::ordinary;
    private static final Supplier<CallRouter> FULL = Scenes::full;

    private CheapestEdges() {
    }

    static void look() {
        presentBand();
        allIsFree();
        attemptsWithoutLimit();
        hopLimit();
        loops();
        lookingUp();
        markedAtEachSwitch();
        routesAccordingTo4();
        leastSum();
        servingCounts0();
        arguments();
        answers();
    }

    private static int[] at(int value, int due) {
        return new int[] {value, due};
    }

    private static void presentBand() {
        Check.sentence(23, "Finds the least cost per minute of a call that is placed at a switch, in the present band,");
        int[] times = {0, 479, 480, 1199, 1200, 7199, 7200, 10079, 10080};
        int[] due = {20, 20, 10, 10, 20, 20, 30, 30, 20};
        CallRouter x = Scenes.chain(2);
        for (int band = 0; band < 3; band++) {
            x.setCost(0, band, 10 * (band + 1));
        }
        for (int i = 0; i < times.length; i++) {
            Scenes.passTo(x, times[i]);
            Check.due("at " + times[i], x.cheapest(0, 5), due[i]);
        }
    }

    private static void allIsFree() {
        Check.sentence(23, "as if all lines were free, no number busy,");
        CallRouter x = Scenes.switches(3);
        x.addRoute(0, 0, 1, 5, 1);
        x.addRoute(0, 0, 2, 9, 1);
        x.addRoute(1, 0, 1, 0, 1);
        x.addRoute(2, 0, 2, 0, 1);
        Check.due("connected", x.call(0, 7), 0);
        Check.due("busy, and its line occupied", x.cheapest(0, 7), 5);
        Check.due("its line occupied", x.cheapest(0, 8), 5);
        x.setLookup(1, true);
        x.port(7, 1);
        Check.due("busy where its mark ends it", x.cheapest(1, 7), 0);
        CallRouter y = Scenes.fullNetwork();
        Check.due("ten calls are connected", y.cheapest(0, 204), 16);
    }

    private static void attemptsWithoutLimit() {
        Check.sentence(23, "the number of attempts without a limit");
        CallRouter x = Scenes.switches(3);
        for (int i = 0; i < 38; i++) {
            x.addRoute(0, 0, 1, 0, 1);
        }
        x.addRoute(0, 0, 2, 1, 1);
        x.addRoute(2, 0, 2, 0, 1);
        Check.due("the call itself", x.call(0, 5), -16);
        Check.due("the 39th route", x.cheapest(0, 5), 1);
    }

    private static void hopLimit() {
        Check.sentence(23, "(but with the hop limit,");
        for (int limit = 1; limit <= 6; limit++) {
            CallRouter x = Scenes.chain(8);
            x.setLimit(limit);
            for (int s = 0; s < 8; s++) {
                Check.due("from " + s + " with the limit " + limit, x.cheapest(s, 5), 8 - s <= limit ? 7 - s : -9);
            }
        }
        CallRouter y = Scenes.chain(3);
        y.addRoute(0, 0, 2, 1000, 1);
        Check.due("the cheaper way", y.cheapest(0, 5), 2);
        y.setLimit(3);
        Check.due("is just not too long", y.cheapest(0, 5), 2);
        y.setLimit(2);
        Check.due("is too long", y.cheapest(0, 5), 1000);
    }

    private static void loops() {
        Check.sentence(23, "loops,");
        CallRouter x = Scenes.switches(3);
        x.addRoute(0, 0, 1, 0, 1);
        x.addRoute(1, 0, 0, 0, 1);
        Check.due("only a loop", x.cheapest(0, 5), -9);
        CallRouter y = Scenes.switches(4);
        y.setLookup(1, true);
        y.port(5, 3);
        y.addRoute(0, 5, 1, 1, 1);
        y.addRoute(1, 9903, 0, 1, 1);
        y.addRoute(0, 9903, 3, 1, 1);
        Check.due("back to a switch where it was not marked", y.cheapest(0, 5), -9);
        Check.due("that is a loop for the call, too", y.call(0, 5), -13);
        Check.due("no loop from 1 on", y.cheapest(1, 5), 2);
    }

    private static void lookingUp() {
        Check.sentence(23, "and looking up as they are),");
        for (int looks = 0; looks < 2; looks++) {
            for (int ported = 0; ported < 2; ported++) {
                CallRouter x = Scenes.switches(2);
                x.addRoute(0, 9901, 1, 3, 1);
                x.addRoute(0, 4, 1, 7, 1);
                x.addRoute(1, 4, 1, 7, 1);
                x.setLookup(0, looks == 1);
                x.port(ported == 1 ? 45 : 46, 1);
                Check.due("looks " + looks + ", ported " + ported, x.cheapest(0, 45), looks + ported == 2 ? 3 : 7);
            }
        }
        servedByMarks();
        CallRouter y = Scenes.switches(2);
        y.port(5, 0);
        Check.due("not looked up", y.cheapest(0, 5), -9);
        y.setLookup(0, true);
        Check.due("it ends at once", y.cheapest(0, 5), 0);
        y.addRoute(1, 0, 0, 8, 1);
        Check.due("looked up where it ends", y.cheapest(1, 5), 8);
        y.setLimit(1);
        Check.due("too many hops before its mark ends it", y.cheapest(1, 5), -9);
    }

    private static void servedByMarks() {
        CallRouter x = Scenes.switches(2);
        x.setLookup(0, true);
        x.port(45, 1);
        x.addRoute(0, 4, 0, 0, 1);
        Check.due("its own digits would be served", x.cheapest(0, 45), -9);
        Check.due("those of another number are", x.cheapest(0, 46), 0);
        x.addRoute(0, 9901, 0, 0, 1);
        Check.due("its marked digits are served", x.cheapest(0, 45), 0);
        Check.due("as the call is", x.call(0, 45), 0);
    }

    private static void markedAtEachSwitch() {
        Check.sentence(23, "looking up as they are");
        for (int s = 0; s < 8; s++) {
            for (int t = 0; t < 8; t++) {
                if (s != t) {
                    CallRouter x = Scenes.switches(8);
                    x.addRoute(s, 9900 + t, t, 3, 1);
                    Check.due("no way", x.cheapest(s, 45), -9);
                    x.port(45, t);
                    x.setLookup(s, true);
                    Check.due("marked from " + s + " to " + t, x.cheapest(s, 45), 3);
                    Check.due("another number", x.cheapest(s, 46), -9);
                    x.addRoute(s, 4, t, 9, 1);
                    x.addRoute(t, 4, t, 0, 1);
                    Check.due("not marked from " + s + " to " + t, x.cheapest(s, 46), 9);
                }
            }
        }
    }

    private static void routesAccordingTo4() {
        Check.sentence(23, "and each switch could take any of the routes that it would take according to 4:");
        CallRouter x = Scenes.switches(4);
        x.addRoute(0, 5, 1, 1, 1);
        x.addRoute(0, 5, 2, 2, 1);
        x.addRoute(0, 5, 3, 3, 1);
        x.addRoute(0, 0, 0, 0, 1);
        x.addRoute(1, 0, 0, 0, 1);
        x.addRoute(3, 0, 3, 0, 1);
        x.setCodes(0, 0);
        Check.due("the call stops at the first one", x.call(0, 5), -13);
        Check.due("the third one", x.cheapest(0, 5), 3);
        Check.due("a shorter prefix is not taken", x.cheapest(0, 55), 3);
        Check.due("but by other numbers", x.cheapest(0, 4), 0);
    }

    private static void leastSum() {
        Check.sentence(23, "the least sum of the costs of the routes on a way on which it would be connected");
        CallRouter x = Scenes.switches(4);
        x.addRoute(0, 0, 1, 10, 1);
        x.addRoute(0, 0, 2, 1, 1);
        x.addRoute(2, 0, 3, 1, 1);
        x.addRoute(3, 0, 1, 7, 1);
        x.addRoute(1, 0, 1, 0, 1);
        Check.due("three routes", x.cheapest(0, 5), 9);
        x.setCost(3, 1, 8);
        Check.due("both are equal", x.cheapest(0, 5), 10);
        x.setCost(3, 1, 9);
        Check.due("one route", x.cheapest(0, 5), 10);
        x.addRoute(0, 0, 1, 4, 1);
        Check.due("a cheaper one beside it", x.cheapest(0, 5), 4);
        x.addRoute(0, 0, 1, 6, 1);
        Check.due("a dearer one beside it", x.cheapest(0, 5), 4);
        CallRouter y = Scenes.chain(6);
        y.setLimit(6);
        for (int route = 0; route < 6; route++) {
            y.setCost(route, 1, 1000);
        }
        Check.due("the greatest sum", y.cheapest(0, 5), 5000);
        for (int route = 0; route < 6; route++) {
            y.setCost(route, 1, 0);
        }
        Check.due("the least sum", y.cheapest(0, 5), 0);
    }

    private static void servingCounts0() {
        Check.sentence(23, "(a route that serves its numbers counts 0).");
        for (int cost : new int[] {0, 1, 1000}) {
            CallRouter x = Scenes.chain(2);
            x.setCost(1, 1, cost);
            Check.due("served", x.cheapest(1, 5), 0);
            Check.due("served behind a route", x.cheapest(0, 5), 1);
        }
    }

    private static void arguments() {
        Check.sentence(23, "s: a switch");
        Reveal.range("s", ORDINARY, (x, s) -> x.cheapest(s, 8), at(0, 8), at(3, -9));
        Reveal.range("s", FULL, (x, s) -> x.cheapest(s, 11), at(0, 0), at(7, 0));
        Check.sentence(23, "number: 1 to 999999999");
        Reveal.range("number", ORDINARY, (x, number) -> x.cheapest(0, number), at(1, 8), at(999999999, 8));
        Reveal.range("number", FULL, (x, number) -> x.cheapest(0, number), at(1, 0), at(999999999, -9));
    }

    private static void answers() {
        Check.sentence(23, "Returns the sum; BAD if there is no such switch, or number is not in its range; NONE if"
                + " there is no such way.");
        AskingEdges.onlyAsks("a sum", x -> x.cheapest(0, 6), 8, -9);
        Reveal.unchanged("no such way", ORDINARY, x -> x.cheapest(3, 6), -9);
        Check.due("no routes", Scenes.switches(1).cheapest(0, 5), -9);
        Check.due("no such way, no such number", Scenes.switches(1).cheapest(0, 0), -1);
        Check.due("both are bad", Scenes.switches(1).cheapest(1, 0), -1);
        Check.due("no switches", new CallRouter().cheapest(0, 5), -1);
        CallRouter x = Scenes.chain(3);
        x.call(0, 5);
        x.cheapest(2, 5);
        CallEdges.dueTrace("it is no call", x, 0, 0, 1, 0, 2, 0);
    }
}
