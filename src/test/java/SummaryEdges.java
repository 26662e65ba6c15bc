/** The document's first sentence, which tells in one breath what all others tell. */
final class SummaryEdges {
    private SummaryEdges() {
    }

    static void look() {
        prefixesAndCosts();
        portedNumbers();
        otherRoutes();
        noCircles();
        lines();
        debts();
    }

    private static void prefixesAndCosts() {
        Check.sentence(0, "Call routing among telephone switches: numbers are routed by longest prefixes and least"
                + " costs by the time of the week,");
        int[] times = {0, 480, 7200};
        int[] due = {1, 2, 3};
        for (int i = 0; i < times.length; i++) {
            CallRouter x = Scenes.switches(2);
            x.addRoute(0, 4, 1, 0, 1);
            for (int route = 1; route <= 3; route++) {
                x.addRoute(0, 49, 1, 9, 1);
            }
            x.addRoute(1, 0, 1, 0, 1);
            x.setCost(1, 1, 5);
            x.setCost(2, 0, 5);
            x.setCost(3, 2, 5);
            Scenes.passTo(x, times[i]);
            Check.due("connected", x.call(0, 490), 0);
            CallEdges.dueWay("the longest prefix, the least cost at " + times[i], x, 0, due[i], 4);
            Check.due("connected", x.call(0, 40), 1);
            CallEdges.dueWay("a shorter prefix", x, 1, 0, 4);
        }
    }

    private static void portedNumbers() {
        Check.sentence(0, "numbers that were ported are looked up and marked,");
        CallRouter x = Scenes.switches(3);
        x.addRoute(0, 4, 1, 0, 1);
        x.addRoute(0, 9902, 2, 0, 1);
        x.addRoute(1, 4, 1, 0, 1);
        x.setLookup(0, true);
        Check.due("not ported", x.call(0, 45), 0);
        CallEdges.dueWay("by its digits", x, 0, 0, 2);
        x.end(0);
        x.port(45, 2);
        Check.due("ported", x.call(0, 45), 0);
        CallEdges.dueWay("by its mark", x, 0, 1);
    }

    private static void otherRoutes() {
        Check.sentence(0, "calls that fail are tried on other routes by their codes,");
        CallRouter x = Scenes.switches(3);
        x.addRoute(0, 0, 1, 0, 1);
        x.addRoute(0, 0, 2, 1, 1);
        x.addRoute(2, 0, 2, 0, 1);
        x.setCodes(0, 62 - 2);
        Check.due("code 1 is not in the set", x.call(0, 5), -11);
        CallEdges.dueTrace("one route", x, 0, 1);
        x.setCodes(0, 2);
        Check.due("code 1 is in the set", x.call(0, 5), 0);
        CallEdges.dueTrace("the other route", x, 0, 1, 1, 0, 2, 0);
    }

    /** Switch 1 gave the number away to switch 2, which sends the digits themselves back to 1. */
    private static void noCircles() {
        Check.sentence(0, "marks keep calls from going in circles,");
        CallRouter x = Scenes.switches(3);
        x.addRoute(0, 4, 1, 0, 1);
        x.addRoute(1, 4, 2, 0, 1);
        x.addRoute(1, 9902, 2, 0, 1);
        x.addRoute(2, 4, 1, 0, 1);
        x.port(45, 2);
        Check.due("a circle without a mark", x.call(0, 45), -13);
        CallEdges.dueTrace("a circle without a mark", x, 0, 3, 1, 3, 3, 3);
        x.setLookup(1, true);
        Check.due("none with a mark", x.call(0, 45), 0);
        CallEdges.dueWay("none with a mark", x, 0, 0, 2);
    }

    private static void lines() {
        Check.sentence(0, "lines are occupied by calls,");
        CallRouter x = Scenes.switches(2);
        x.addRoute(0, 0, 1, 0, 1);
        x.addRoute(1, 0, 1, 0, 1);
        Check.due("the only line", x.call(0, 5), 0);
        Check.due("is occupied", x.call(0, 6), -12);
        x.end(0);
        Check.due("is free again", x.call(0, 6), 0);
    }

    private static void debts() {
        Check.sentence(0, "and what the switches owe one another is accounted for.");
        CallRouter x = Scenes.chain(3);
        x.call(0, 5);
        x.call(1, 6);
        x.pass(10);
        Check.due("two routes", x.end(0), 20);
        Check.due("one route", x.end(1), 10);
        Check.due("for one call", x.owes(0, 1), 10);
        Check.due("for two calls", x.owes(1, 2), 20);
        Check.due("nothing", x.owes(0, 2), 0);
    }
}
