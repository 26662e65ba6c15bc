/** The edges that the document names for calls that are connected: their places, their minutes, their sums. */
final class ConnectedEdges {
    private ConnectedEdges() {
    }

    static void look() {
        tenCalls();
        smallestPlaces();
        atLeastOneMinute();
        eachRouteOnTheWay();
        costsAtTheEnd();
        bandsOfTheBeginning();
        debtsOverflow();
        sumsOverflow();
    }

    private static CallRouter tenConnected() {
        CallRouter x = Scenes.chain(1);
        for (int i = 0; i < 10; i++) {
            Check.due("place", x.call(0, 100 + i), i);
        }
        return x;
    }

    private static void tenCalls() {
        Check.sentence(0, "At most 10 calls are connected at the same time;");
        CallRouter x = tenConnected();
        Check.due("ten calls", x.calls(), 10);
        Check.due("the eleventh", x.call(0, 5), -3);
        Check.due("ten calls", x.calls(), 10);
        Check.due("the tenth is there", x.called(9), 109);
        Check.due("no eleventh is there", x.called(10), -1);
        x.end(9);
        Check.due("room again", x.call(0, 5), 9);
        Check.due("no more room", x.call(0, 6), -3);
    }

    private static void smallestPlaces() {
        Check.sentence(0, "they have places from 0, and a new call gets the smallest place that is free.");
        for (int first = 0; first < 10; first++) {
            for (int second = first + 1; second < 10; second++) {
                CallRouter x = tenConnected();
                x.end(second);
                x.end(first);
                Check.due("the smaller one", x.call(0, 5), first);
                Check.due("the greater one", x.call(0, 6), second);
                Check.due("its number", x.called(first), 5);
                Check.due("no more", x.call(0, 7), -3);
            }
        }
    }

    private static void atLeastOneMinute() {
        Check.sentence(0, "When a call ends, it has lasted for the minutes since it was connected, but at least 1;");
        int[] minutes = {0, 1, 2, 3, 10080, 10081, 1000000};
        int[] due = {1, 1, 2, 3, 10080, 10081, 1000000};
        for (int i = 0; i < minutes.length; i++) {
            CallRouter x = Scenes.chain(2);
            x.call(0, 5);
            Scenes.passTo(x, minutes[i]);
            Check.due("a call of " + minutes[i] + " minutes", x.end(0), due[i]);
        }
        CallRouter y = Scenes.chain(2);
        y.pass(17);
        y.call(0, 5);
        y.pass(4);
        y.call(0, 6);
        Check.due("not since it was free", y.end(1), 1);
        Check.due("not since the beginning", y.end(0), 4);
        CallRouter z = Scenes.chain(2);
        Scenes.passTo(z, 1000000);
        z.call(0, 5);
        Check.due("in the last minute", z.end(0), 1);
    }

    private static void eachRouteOnTheWay() {
        Check.sentence(0, "for each route on its way (in the order in which it went; a route that serves its numbers"
                + " is the last one), the switch of the route owes the next switch");
        for (int size = 1; size <= 6; size++) {
            CallRouter x = Scenes.chain(size);
            x.setLimit(6);
            for (int route = 0; route < size; route++) {
                x.setCost(route, 1, 1 << route);
            }
            x.call(0, 5);
            for (int i = 0; i < size; i++) {
                Check.due("way " + i + " of " + size, x.way(0, i), i);
            }
            Check.due("no more", x.way(0, size), -9);
            x.pass(3);
            Check.due("all but the serving one", x.end(0), 3 * ((1 << size - 1) - 1));
            for (int s = 0; s < size; s++) {
                for (int t = 0; t < size; t++) {
                    Check.due(s + " owes " + t, x.owes(s, t), t == s + 1 ? 3 << s : 0);
                }
            }
        }
    }

    private static void costsAtTheEnd() {
        Check.sentence(0, "the cost of the route (as it is when the call ends),");
        CallRouter x = Scenes.chain(2);
        x.call(0, 5);
        x.pass(2);
        x.setCost(0, 1, 1000);
        Check.due("the new cost, for all minutes", x.end(0), 2000);
        x.call(0, 5);
        x.setCost(0, 1, 0);
        Check.due("nothing", x.end(0), 0);
        Check.due("owed before", x.owes(0, 1), 2000);
    }

    private static void bandsOfTheBeginning() {
        Check.sentence(0, "in the band of the time at which the call was connected, for each of these minutes");
        int[] starts = {479, 480, 1199, 1200, 7199, 7200, 10079, 10080};
        int[] due = {20, 10, 10, 20, 20, 30, 30, 20};
        for (int i = 0; i < starts.length; i++) {
            CallRouter x = Scenes.chain(2);
            for (int band = 0; band < 3; band++) {
                x.setCost(0, band, 10 * (band + 1));
            }
            Scenes.passTo(x, starts[i]);
            x.call(0, 5);
            Check.due("at once, at " + starts[i], x.end(0), due[i]);
            x.call(0, 5);
            x.pass(10080);
            Check.due("a week, from " + starts[i], x.end(0), 10080 * due[i]);
            x.call(0, 5);
            x.pass(4000);
            Check.due("into another band, from " + starts[i], x.end(0), 4000 * due[i]);
        }
    }

    /** What 0 owes 1 comes to the greatest int, then beyond it. */
    private static void debtsOverflow() {
        Check.sentence(0, "(all sums of what is owed with int overflow).");
        CallRouter x = Scenes.chain(2);
        for (int band = 0; band < 3; band++) {
            x.setCost(0, band, 1000);
        }
        x.call(0, 1);
        x.call(0, 2);
        Scenes.passTo(x, 1000000 - 147483);
        x.call(0, 3);
        Scenes.passTo(x, 1000000);
        Check.due("the greatest sum of one route", x.end(0), 1000000000);
        Check.due("the greatest sum of one route", x.end(1), 1000000000);
        Check.due("a smaller one", x.end(2), 147483000);
        int band = x.band();
        x.setCost(0, band, 647);
        x.call(0, 5);
        x.end(0);
        Check.due("the greatest debt", x.owes(0, 1), Integer.MAX_VALUE);
        x.setCost(0, band, 1);
        x.call(0, 5);
        Check.due("one more", x.end(0), 1);
        Check.due("the least debt", x.owes(0, 1), Integer.MIN_VALUE);
        Check.due("no debt in the other direction", x.owes(1, 0), 0);
    }

    private static void sumsOverflow() {
        Check.sentence(0, "all sums of what is owed with int overflow");
        CallRouter x = Scenes.chain(6);
        x.setLimit(6);
        for (int route = 0; route < 6; route++) {
            x.setCost(route, 1, route < 3 ? 1000 : 0);
        }
        x.call(0, 5);
        Scenes.passTo(x, 1000000);
        Check.due("three times the greatest sum", x.end(0), (int) 3000000000L);
        CallRouter y = Scenes.chain(4);
        y.setCost(0, 1, 1000);
        y.setCost(1, 1, 999);
        y.setCost(2, 1, 148);
        y.call(0, 5);
        Scenes.passTo(y, 1000000);
        Check.due("just below the greatest int", y.end(0), 2147000000);
        y.undo();
        y.setCost(2, 1, 149);
        Check.due("just above it", y.end(0), (int) 2148000000L);
        Check.due("each debt is smaller", y.owes(1, 2), 999000000);
    }
}
