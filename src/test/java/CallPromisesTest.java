/** Promises 10 to 12: call, end, pass. */
final class CallPromisesTest {
    public static void main(String[] args) {
        promise10Errors();
        promise10Places();
        promise10LongestPrefix();
        promise10Order();
        promise10Lines();
        promise10Busy();
        promise10LoopBeforeHops();
        promise10Marks();
        promise10MarkEndsBehindLookup();
        promise10MarkedDigits();
        promise10Attempts31();
        promise10History();
        promise11End();
        promise11Overflow();
        promise11BandsAndCosts();
        promise12Pass();
        Check.finish();
    }

    private static void dueTrace(String name, CallRouter x, int... routesAndCodes) {
        Check.due(name + " attempts", x.attempts(), routesAndCodes.length / 2);
        for (int i = 0; i < routesAndCodes.length; i++) {
            Check.due(name + " attempt " + i / 2 + ", " + i % 2, x.attempt(i / 2, i % 2), routesAndCodes[i]);
        }
    }

    private static void dueWay(String name, CallRouter x, int place, int... routes) {
        for (int i = 0; i < routes.length; i++) {
            Check.due(name + " way " + i, x.way(place, i), routes[i]);
        }
        Check.due(name + " end of the way", x.way(place, routes.length), -9);
    }

    private static void promise10Errors() {
        CallRouter x = SetupPromisesTest.withSwitches(1);
        x.addRoute(0, 0, 0, 0, 1);
        Check.due("10 no such switch", x.call(1, 5), -1);
        Check.due("10 negative switch", x.call(-1, 5), -1);
        Check.due("10 number 0", x.call(0, 0), -1);
        Check.due("10 great number", x.call(0, 1000000000), -1);
        Check.due("10 negative number", x.call(0, Integer.MIN_VALUE), -1);
        Check.due("10 errors are not placed", x.attempts(), 0);
        for (int i = 0; i < 10; i++) {
            Check.due("10 places", x.call(0, i + 1), i);
        }
        dueTrace("10 tenth", x, 0, 0);
        x.addRoute(0, 5, 0, 0, 1);
        Check.due("10 full", x.call(0, 51), -3);
        Check.due("10 full, even if it is busy", x.call(0, 1), -3);
        Check.due("10 BAD before FULL", x.call(1, 1), -1);
        dueTrace("10 errors keep the trace", x, 0, 0);
    }

    private static void promise10Places() {
        CallRouter x = SetupPromisesTest.withSwitches(1);
        x.addRoute(0, 0, 0, 0, 1);
        for (int i = 0; i < 5; i++) {
            x.call(0, 100 + i);
        }
        x.end(3);
        x.end(1);
        Check.due("10 smallest place", x.call(0, 7), 1);
        Check.due("10 next smallest place", x.call(0, 8), 3);
        Check.due("10 behind the others", x.call(0, 9), 5);
    }

    private static void promise10LongestPrefix() {
        CallRouter x = SetupPromisesTest.withSwitches(2);
        x.addRoute(0, 12, 0, 0, 1);
        x.addRoute(0, 123, 1, 9, 1);
        x.addRoute(0, 1234, 0, 0, 1);
        x.addRoute(1, 123, 1, 0, 1);
        Check.due("10 the longest one", x.call(0, 123), 0);
        dueWay("10 longest", x, 0, 1, 3);
        Check.due("10 a shorter one is not gone back to", x.call(0, 1235), -12);
        dueTrace("10 only the longest", x, 1, 2);
        Check.due("10 shorter number", x.call(0, 12), 1);
        Check.due("10 too short", x.call(0, 1), -11);
        Check.due("10 trace is empty", x.attempts(), 0);
        Check.due("10 nine digits", x.call(0, 123456789), 2);
        dueWay("10 nine digits", x, 2, 2);
    }

    private static void promise10Order() {
        CallRouter x = SetupPromisesTest.withSwitches(2);
        x.addRoute(0, 0, 1, 5, 1);
        x.addRoute(0, 0, 1, 3, 1);
        x.addRoute(0, 0, 1, 5, 1);
        x.addRoute(0, 0, 1, 3, 1);
        x.addRoute(0, 0, 0, 4, 1);
        x.setCodes(0, 62);
        Check.due("10 a serving route stands by its cost", x.call(0, 8), 0);
        dueTrace("10 order", x, 1, 1, 3, 1, 4, 0);
        Check.due("10 busy", x.call(0, 8), -11);
        dueTrace("10 whole order", x, 1, 1, 3, 1, 4, 5, 0, 1, 2, 1);
        x.setCost(2, 1, 0);
        x.setCost(0, 0, 0);
        x.call(0, 8);
        dueTrace("10 order of the present band", x, 2, 1, 1, 1, 3, 1, 4, 5, 0, 1);
        x.pass(480);
        x.call(0, 8);
        dueTrace("10 order of the day", x, 0, 1, 1, 1, 3, 1, 4, 5, 2, 1);
    }

    private static void promise10Lines() {
        CallRouter x = SetupPromisesTest.withSwitches(3);
        x.addRoute(0, 0, 1, 1, 2);
        x.addRoute(1, 0, 2, 1, 3);
        x.addRoute(2, 7, 2, 1, 1);
        Check.due("10 a failing call frees its lines", x.call(0, 8), -11);
        Check.due("10 freed", x.route(0, 7), 0);
        Check.due("10 freed", x.route(1, 7), 0);
        Check.due("10 line one", x.call(0, 71), 0);
        Check.due("10 line two", x.call(0, 72), 1);
        Check.due("10 occupied", x.route(0, 7), 2);
        Check.due("10 occupied", x.route(1, 7), 2);
        Check.due("10 serving occupies none", x.route(2, 7), 0);
        Check.due("10 no lines", x.call(0, 73), -12);
        Check.due("10 a line of the next one", x.call(1, 73), 2);
        Check.due("10 no lines there", x.call(1, 74), -12);
        x.end(1);
        Check.due("10 free again", x.call(0, 75), 1);
    }

    private static void promise10Busy() {
        CallRouter x = SetupPromisesTest.withSwitches(2);
        x.addRoute(0, 0, 0, 0, 1);
        x.addRoute(1, 0, 1, 0, 1);
        x.call(0, 6);
        Check.due("10 busy at every switch", x.call(1, 6), -15);
        dueTrace("10 busy", x, 1, 5);
        Check.due("10 another number", x.call(1, 66), 1);
        x.setLookup(1, true);
        x.port(6, 1);
        Check.due("10 busy where the mark ends", x.call(1, 6), -15);
        Check.due("10 without an attempt", x.attempts(), 0);
        x.end(0);
        Check.due("10 no longer busy", x.call(1, 6), 0);
        Check.due("10 called is the number itself", x.called(0), 6);
    }

    private static void promise10LoopBeforeHops() {
        CallRouter x = SetupPromisesTest.withSwitches(3);
        x.addRoute(0, 0, 1, 1, 1);
        x.addRoute(1, 0, 0, 1, 1);
        x.addRoute(1, 5, 2, 1, 1);
        x.setLimit(2);
        Check.due("10 loop before hops", x.call(0, 6), -13);
        dueTrace("10 loop", x, 0, 3, 1, 3);
        Check.due("10 hops", x.call(0, 5), -14);
        dueTrace("10 hops", x, 0, 4, 2, 4);
    }

    private static void promise10Marks() {
        CallRouter x = SetupPromisesTest.withSwitches(4);
        x.addRoute(0, 0, 1, 1, 5);
        x.addRoute(0, 0, 2, 2, 5);
        x.addRoute(1, 99035, 2, 0, 5);
        x.addRoute(2, 9903, 1, 0, 5);
        x.addRoute(2, 5, 2, 0, 5);
        x.setLookup(1, true);
        x.port(55, 3);
        Check.due("10 marked behind 1, plain again at 0", x.call(0, 55), 0);
        dueTrace("10 marks", x, 0, 3, 2, 3, 3, 3, 1, 0, 4, 0);
        dueWay("10 marks", x, 0, 1, 4);
        Check.due("10 a number that looks marked is not", x.call(2, 990355), -13);
        dueTrace("10 a number like a mark", x, 3, 3, 2, 3);
        x.unport(55);
        x.end(0);
        Check.due("10 not ported", x.call(1, 55), -11);
        x.port(5, 3);
        Check.due("10 short number", x.call(1, 5), -13);
        dueTrace("10 short number", x, 2, 3, 3, 3);
    }

    private static void promise10MarkEndsBehindLookup() {
        CallRouter x = SetupPromisesTest.withSwitches(8);
        x.addRoute(0, 990712345, 7, 3, 1);
        x.addRoute(7, 0, 7, 0, 1);
        x.setLookup(0, true);
        x.port(12345, 7);
        x.port(999999999, 0);
        Check.due("10 a prefix with mark and digits", x.call(0, 12345), 0);
        dueWay("10 ends by its mark", x, 0, 0);
        Check.due("10 ends where it began", x.call(0, 999999999), 1);
        dueWay("10 ends where it began", x, 1);
        Check.due("10 no lookup, served", x.call(7, 12346), 2);
        Check.due("10 the mark ends the call only if it is looked up", x.call(7, 12345), -15);
        dueTrace("10 served", x, 1, 5);
    }

    /** The digits behind the mark are those of the number, however many it has. */
    private static void promise10MarkedDigits() {
        int[] numbers = {1, 9, 10, 11, 99, 100, 101, 999, 1000, 99999999, 100000000, 123456789, 999999999};
        for (int number : numbers) {
            String digits = "9903" + number;
            for (int length = 0; length <= 9; length++) {
                CallRouter x = SetupPromisesTest.withSwitches(4);
                x.setLookup(0, true);
                x.port(number, 3);
                String prefix = digits.substring(0, Math.min(length, digits.length()));
                x.addRoute(0, prefix.isEmpty() ? 0 : Integer.parseInt(prefix), 3, 1, 1);
                Check.due("10 a call to " + number + " by prefix " + prefix, x.call(0, number), 0);
                if (digits.startsWith(String.valueOf(number))) {
                    continue;
                }
                x.addRoute(0, number, 1, 1, 1);
                x.end(0);
                Check.due("10 its own digits are not in front", x.call(0, number), 0);
                dueWay("10 its own digits are not in front", x, 0, 0);
            }
        }
        CallRouter y = SetupPromisesTest.withSwitches(4);
        y.setLookup(0, true);
        y.port(1, 3);
        y.addRoute(0, 990310, 3, 1, 1);
        Check.due("10 a prefix longer than the digits", y.call(0, 1), -11);
    }

    /** A mesh of 6 switches without an end: each switch goes on to all others. */
    private static void promise10Attempts31() {
        CallRouter x = SetupPromisesTest.withSwitches(6);
        for (int s = 0; s < 6; s++) {
            for (int t = 0; t < 6; t++) {
                if (s != t) {
                    x.addRoute(s, 0, t, 1, 1);
                }
            }
        }
        long sum = x.fingerprint();
        Check.due("10 too many attempts", x.call(0, 5), -16);
        Check.due("10 thirty attempts", x.attempts(), 30);
        Check.due("10 no 31st", x.attempt(30, 0), -1);
        Check.due("10 under way", x.attempt(0, 1), 6);
        Check.due("10 first route", x.attempt(0, 0), 0);
        Check.due("10 ended before", x.attempt(1, 1), 3);
        Check.due("10 all lines are free", x.fingerprint(), sum);
        CallRouter y = SetupPromisesTest.withSwitches(2);
        for (int i = 0; i < 30; i++) {
            y.addRoute(0, 0, 1, 1, 1);
        }
        Check.due("10 thirty fail", y.call(0, 5), -11);
        Check.due("10 thirty fail", y.attempts(), 30);
        y.addRoute(0, 0, 0, 1, 1);
        Check.due("10 the 31st is not tried", y.call(0, 5), -16);
        Check.due("10 not counted", y.attempts(), 30);
        Check.due("10 the others keep their codes", y.attempt(29, 1), 1);
        y.setCost(30, 1, 0);
        Check.due("10 tried first", y.call(0, 5), 0);
    }

    private static void promise10History() {
        CallRouter x = SetupPromisesTest.withSwitches(2);
        x.addRoute(0, 1, 1, 1, 1);
        x.addRoute(1, 1, 1, 1, 1);
        Check.due("10 connected", x.call(0, 1), 0);
        Check.due("10 not connected", x.call(0, 2), -11);
        Check.due("10 only the connected one is an act", x.undo(), 4);
        Check.due("10 undone", x.calls(), 0);
        Check.due("10 undone", x.route(0, 7), 0);
        Check.due("10 the trace stays", x.attempts(), 0);
        x.call(0, 1);
        Check.due("10 act", x.undo(), 4);
        dueTrace("10 the trace stays", x, 0, 0, 1, 0);
    }

    private static void promise11End() {
        CallRouter x = SetupPromisesTest.withSwitches(3);
        x.addRoute(0, 0, 1, 10, 1);
        x.addRoute(1, 0, 2, 7, 1);
        x.addRoute(2, 0, 2, 100, 1);
        Check.due("11 no call", x.end(0), -1);
        Check.due("11 negative", x.end(-1), -1);
        Check.due("11 great", x.end(10), -1);
        x.call(0, 5);
        Check.due("11 at least one minute", x.end(0), 17);
        Check.due("11 owed", x.owes(0, 1), 10);
        Check.due("11 owed", x.owes(1, 2), 7);
        Check.due("11 not in the other direction", x.owes(1, 0), 0);
        Check.due("11 nothing for serving", x.owes(2, 2), 0);
        x.call(0, 5);
        Check.due("11 occupied", x.route(1, 7), 1);
        x.pass(1);
        Check.due("11 one minute", x.end(0), 17);
        Check.due("11 ended", x.end(0), -1);
        Check.due("11 free", x.route(0, 7), 0);
        Check.due("11 free", x.route(1, 7), 0);
        x.call(0, 5);
        x.pass(3);
        Check.due("11 three minutes", x.end(0), 51);
        Check.due("11 sums", x.owes(0, 1), 50);
        Check.due("11 an act", x.undo(), 4);
        Check.due("11 undone", x.calls(), 1);
        Check.due("11 undone", x.owes(0, 1), 20);
        Check.due("11 undone", x.route(0, 7), 1);
        x.pass(1);
        Check.due("11 four minutes", x.end(0), 68);
    }

    private static void promise11Overflow() {
        CallRouter x = SetupPromisesTest.withSwitches(4);
        for (int s = 0; s < 3; s++) {
            x.addRoute(s, 0, s + 1, 1000, 1);
        }
        x.addRoute(3, 0, 3, 0, 1);
        x.call(0, 5);
        for (int i = 0; i < 99; i++) {
            x.pass(10080);
        }
        int owed = 99 * 10080 * 1000;
        Check.due("11 the sum wraps", x.end(0), (int) (3L * owed));
        for (int i = 0; i < 2; i++) {
            x.undo();
            x.end(0);
        }
        Check.due("11 one route", x.owes(2, 3), owed);
        CallRouter y = SetupPromisesTest.withSwitches(2);
        for (int i = 0; i < 3; i++) {
            y.addRoute(0, 0, 1, 1000, 1);
        }
        y.addRoute(1, 0, 1, 0, 1);
        for (int n = 1; n <= 3; n++) {
            y.call(0, n);
        }
        for (int i = 0; i < 99; i++) {
            y.pass(10080);
        }
        for (int place = 0; place < 3; place++) {
            y.end(place);
        }
        Check.due("11 a debt wraps", y.owes(0, 1), (int) (3L * owed));
    }

    private static void promise11BandsAndCosts() {
        CallRouter x = SetupPromisesTest.withSwitches(2);
        x.addRoute(0, 0, 1, 1, 9);
        x.addRoute(1, 0, 1, 0, 1);
        x.setCost(0, 1, 2);
        x.setCost(0, 2, 3);
        x.pass(1199);
        x.call(0, 5);
        x.pass(2);
        Check.due("11 the band when it was connected", x.end(0), 2);
        x.call(0, 5);
        x.setCost(0, 1, 50);
        x.setCost(0, 0, 60);
        Check.due("11 the cost when it ends", x.end(0), 50);
        x.pass(5999);
        Check.due("11 time", x.time(), 7200);
        x.call(0, 5);
        x.pass(10);
        Check.due("11 band 2", x.end(0), 30);
    }

    private static void promise12Pass() {
        CallRouter x = new CallRouter();
        Check.due("12 zero", x.pass(0), -1);
        Check.due("12 negative", x.pass(-1), -1);
        Check.due("12 great", x.pass(10081), -1);
        Check.due("12 greatest int", x.pass(Integer.MAX_VALUE), -1);
        Check.due("12 one", x.pass(1), 1);
        for (int i = 1; i <= 99; i++) {
            Check.due("12 weeks", x.pass(10080), 1 + i * 10080);
        }
        Check.due("12 too late", x.pass(2080), -2);
        Check.due("12 BAD before STATE", x.pass(10081), -1);
        Check.due("12 the last minute", x.pass(2079), 1000000);
        Check.due("12 no more", x.pass(1), -2);
        Check.due("12 an act", x.undo(), 4);
        Check.due("12 undone", x.time(), 997921);
    }
}
