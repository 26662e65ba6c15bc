/** Promises 27 and 28: undo and fingerprint; and the constants. */
final class HistoryPromisesTest {
    public static void main(String[] args) {
        constants();
        promise27Undo();
        promise27FiveStates();
        promise27AllOfTheState();
        promise27ErrorsAreNoActs();
        promise28Fingerprint();
        Check.finish();
    }

    private static void constants() {
        Check.due("BAD", CallRouter.BAD, -1);
        Check.due("STATE", CallRouter.STATE, -2);
        Check.due("FULL", CallRouter.FULL, -3);
        Check.due("NONE", CallRouter.NONE, -9);
    }

    private static void promise27Undo() {
        CallRouter x = new CallRouter();
        Check.due("27 none", x.undo(), -9);
        x.addSwitch();
        Check.due("27 one", x.undo(), 0);
        Check.due("27 none again", x.undo(), -9);
        Check.due("27 undone", x.addSwitch(), 0);
        Check.due("27 an act that changes nothing", x.setLookup(0, false), 0);
        Check.due("27 an act that changes nothing", x.setLimit(5), 5);
        Check.due("27 is one", x.undo(), 2);
        Check.due("27 undo is no act", x.undo(), 1);
    }

    private static void promise27FiveStates() {
        CallRouter x = new CallRouter();
        for (int i = 0; i < 13; i++) {
            x.pass(1);
        }
        for (int i = 4; i >= 0; i--) {
            Check.due("27 states", x.undo(), i);
            Check.due("27 time", x.time(), 8 + i);
        }
        Check.due("27 the oldest ones were dropped", x.undo(), -9);
        Check.due("27 time stays", x.time(), 8);
        x.pass(100);
        x.pass(100);
        Check.due("27 undone in the middle", x.undo(), 1);
        for (int i = 0; i < 5; i++) {
            x.pass(1000);
        }
        for (int i = 4; i >= 0; i--) {
            Check.due("27 states again", x.undo(), i);
            Check.due("27 time again", x.time(), 108 + 1000 * i);
        }
        Check.due("27 none", x.undo(), -9);
    }

    private static void promise27AllOfTheState() {
        CallRouter x = SetupPromisesTest.withSwitches(3);
        x.addRoute(0, 0, 1, 5, 2);
        x.addRoute(1, 0, 1, 0, 1);
        x.port(9, 1);
        x.call(0, 7);
        long sum = x.fingerprint();
        x.pass(30);
        x.end(0);
        x.setCost(0, 0, 1);
        x.port(9, 2);
        x.call(0, 8);
        Check.due("27 place taken by another", x.called(0), 8);
        for (int i = 4; i >= 0; i--) {
            Check.due("27 back", x.undo(), i);
        }
        Check.due("27 all as it was", x.fingerprint(), sum);
        Check.due("27 the call", x.called(0), 7);
        Check.due("27 its way", x.way(0, 0), 0);
        Check.due("27 its way", x.way(0, 1), 1);
        Check.due("27 its line", x.route(0, 7), 1);
        Check.due("27 the ported number", x.port(9, 0), 1);
        Check.due("27 the trace of the latest call stays", x.attempts(), 2);
        x.pass(2);
        Check.due("27 it began at 0", x.end(0), 10);
        undoOfAPlaceUsedAgain();
        CallRouter y = SetupPromisesTest.withSwitches(1);
        y.setCodes(0, 2);
        y.setLookup(0, true);
        y.undo();
        y.undo();
        y.undo();
        y.addSwitch();
        Check.due("27 a new switch has new codes", y.setCodes(0, 4), 30);
        Check.due("27 and does not look up", y.setLookup(0, true), 0);
    }

    private static void undoOfAPlaceUsedAgain() {
        CallRouter x = SetupPromisesTest.withSwitches(2);
        x.addRoute(0, 0, 1, 5, 2);
        x.addRoute(1, 0, 1, 0, 1);
        x.call(0, 7);
        x.end(0);
        x.call(1, 8);
        Check.due("27 another way", x.way(0, 0), 1);
        Check.due("27 another way", x.way(0, 1), -9);
        x.undo();
        x.undo();
        Check.due("27 the first way", x.way(0, 0), 0);
        Check.due("27 the first way", x.way(0, 1), 1);
        Check.due("27 the first way", x.way(0, 2), -9);
    }

    private static void promise27ErrorsAreNoActs() {
        CallRouter x = SetupPromisesTest.withSwitches(1);
        x.setLookup(1, true);
        x.setCodes(0, 1);
        x.setLimit(0);
        x.addRoute(0, 0, 1, 0, 1);
        x.setCost(0, 0, 0);
        x.port(0, 0);
        x.unport(5);
        x.call(0, 5);
        x.end(0);
        x.pass(0);
        x.run();
        x.type('l');
        x.clear();
        x.choice(0, 5, 0);
        x.cheapest(0, 5);
        x.fingerprint();
        Check.due("27 only one act", x.undo(), 0);
    }

    private static void promise28Fingerprint() {
        CallRouter x = SetupPromisesTest.withSwitches(3);
        x.addRoute(0, 47, 1, 5, 4);
        x.addRoute(1, 0, 1, 6, 3);
        x.addRoute(2, 0, 0, 1000, 20);
        x.setCost(0, 2, 9);
        x.setLimit(4);
        x.port(5, 2);
        x.port(6, 2);
        x.pass(100);
        x.call(0, 471);
        x.call(2, 472);
        x.end(0);
        int[] numbers = {3, 3, 0, 47, 1, 5, 5, 9, 4, 1, 1, 0, 1, 6, 6, 6, 3, 0, 2, 0, 0, 1000, 1000, 1000, 20, 1,
            2, 4, 100, 1, 0, 5, 0, 0, 0, 0, 0, 0, 0};
        long sum = 79;
        for (int n : numbers) {
            sum = 31 * sum + n;
        }
        Check.due("28 fingerprint", x.fingerprint(), sum);
        Check.due("28 again", x.fingerprint(), sum);
        x.setLookup(0, true);
        x.setCodes(0, 2);
        x.type('l');
        x.call(0, 9);
        Check.due("28 what is not in it", x.fingerprint(), sum);
        x.end(1);
        Check.due("28 what is in it", x.fingerprint() == sum ? 1 : 0, 0);
    }
}
