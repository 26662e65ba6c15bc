/** Promises 13 to 23: what can be asked. */
final class AskingPromisesTest {
    public static void main(String[] args) {
        promise13Time();
        promise14Band();
        promise15Route();
        promise16Choice();
        promise17To19Calls();
        promise20Owes();
        promise21And22Attempts();
        promise23Cheapest();
        promise23HopsAndLoops();
        promise23Marks();
        promise23AsIfAllWereFree();
        promise23Dense();
        Check.finish();
    }

    private static void promise13Time() {
        CallRouter x = new CallRouter();
        Check.due("13 at first", x.time(), 0);
        x.pass(17);
        x.pass(10080);
        Check.due("13 passed", x.time(), 10097);
        Check.due("13 asking is no act", x.undo(), 1);
        Check.due("13 undone", x.time(), 17);
    }

    private static void promise14Band() {
        int[] times = {0, 479, 480, 1199, 1200, 1439, 1440, 1919, 1920, 4 * 1440 + 480, 5 * 1440 - 1, 5 * 1440,
            5 * 1440 + 600, 6 * 1440, 6 * 1440 + 700, 7 * 1440 - 1, 7 * 1440, 7 * 1440 + 480, 12 * 1440, 13 * 1440 + 500,
            14 * 1440 - 1, 14 * 1440};
        int[] bands = {1, 1, 0, 0, 1, 1, 1, 1, 0, 0, 1, 2, 2, 2, 2, 2, 1, 0, 2, 2, 2, 1};
        CallRouter x = new CallRouter();
        for (int i = 0; i < times.length; i++) {
            if (times[i] > x.time()) {
                x.pass(times[i] - x.time());
            }
            Check.due("14 time", x.time(), times[i]);
            Check.due("14 band at " + times[i], x.band(), bands[i]);
        }
    }

    private static void promise15Route() {
        CallRouter x = SetupPromisesTest.withSwitches(3);
        x.addRoute(2, 47, 1, 5, 4);
        x.addRoute(1, 0, 1, 6, 3);
        x.setCost(0, 1, 11);
        x.setCost(0, 2, 12);
        x.call(2, 471);
        x.call(2, 472);
        int[] first = {2, 47, 1, 5, 11, 12, 4, 2};
        int[] second = {1, 0, 1, 6, 6, 6, 3, 0};
        for (int what = 0; what < 8; what++) {
            Check.due("15 route(0, " + what + ")", x.route(0, what), first[what]);
            Check.due("15 route(1, " + what + ")", x.route(1, what), second[what]);
        }
        Check.due("15 what negative", x.route(0, -1), -1);
        Check.due("15 what great", x.route(0, 8), -1);
        Check.due("15 no such route", x.route(2, 0), -1);
        Check.due("15 negative route", x.route(-1, 0), -1);
        Check.due("15 extreme", x.route(Integer.MAX_VALUE, Integer.MIN_VALUE), -1);
    }

    private static void promise16Choice() {
        CallRouter x = SetupPromisesTest.withSwitches(2);
        x.addRoute(0, 4, 1, 5, 1);
        x.addRoute(0, 4, 0, 3, 1);
        x.addRoute(0, 0, 1, 0, 1);
        x.addRoute(0, 4, 1, 3, 1);
        x.addRoute(1, 4, 1, 0, 1);
        x.addRoute(0, 99014, 1, 0, 1);
        int[] due = {1, 3, 0, -9, -9};
        for (int i = 0; i < due.length; i++) {
            Check.due("16 choice " + i, x.choice(0, 4, i), due[i]);
            Check.due("16 choice " + i, x.choice(0, 499999999, i), due[i]);
        }
        Check.due("16 empty prefix", x.choice(0, 5, 0), 2);
        Check.due("16 only one", x.choice(0, 5, 1), -9);
        Check.due("16 none", x.choice(1, 5, 0), -9);
        Check.due("16 far", x.choice(0, 4, Integer.MAX_VALUE), -9);
        Check.due("16 negative", x.choice(0, 4, -1), -1);
        Check.due("16 no such switch", x.choice(2, 4, 0), -1);
        Check.due("16 negative switch", x.choice(-1, 4, 0), -1);
        Check.due("16 number 0", x.choice(0, 0, 0), -1);
        Check.due("16 great number", x.choice(0, 1000000000, 0), -1);
        x.setLookup(0, true);
        x.port(4, 1);
        Check.due("16 not looked up", x.choice(0, 4, 0), 1);
        x.setCost(0, 0, 0);
        Check.due("16 in this band", x.choice(0, 4, 0), 1);
        x.pass(480);
        Check.due("16 in the other band", x.choice(0, 4, 0), 0);
        Check.due("16 its line is occupied", x.call(0, 41), 0);
        Check.due("16 its line is occupied", x.route(0, 7), 1);
        Check.due("16 lines do not matter", x.choice(0, 4, 0), 0);
        CallRouter y = SetupPromisesTest.withSwitches(1);
        for (int i = 0; i < 40; i++) {
            y.addRoute(0, 0, 0, 40 - i, 1);
        }
        for (int i = 0; i < 40; i++) {
            Check.due("16 forty routes", y.choice(0, 1, i), 39 - i);
        }
        Check.due("16 no more than forty", y.choice(0, 1, 40), -9);
    }

    private static void promise17To19Calls() {
        CallRouter x = SetupPromisesTest.withSwitches(3);
        x.addRoute(0, 0, 1, 1, 9);
        x.addRoute(1, 0, 2, 1, 9);
        x.addRoute(2, 7, 2, 1, 1);
        Check.due("17 none", x.calls(), 0);
        Check.due("18 no call", x.way(0, 0), -1);
        Check.due("19 no call", x.called(0), -1);
        x.call(0, 71);
        x.call(1, 72);
        x.call(0, 8);
        Check.due("17 two", x.calls(), 2);
        for (int i = 0; i < 3; i++) {
            Check.due("18 way", x.way(0, i), i);
        }
        Check.due("18 end", x.way(0, 3), -9);
        Check.due("18 far", x.way(0, Integer.MAX_VALUE), -9);
        Check.due("18 other call", x.way(1, 0), 1);
        Check.due("18 other call", x.way(1, 1), 2);
        Check.due("18 other call", x.way(1, 2), -9);
        Check.due("18 negative", x.way(0, -1), -1);
        Check.due("18 no call", x.way(2, 0), -1);
        Check.due("18 no place", x.way(10, 0), -1);
        Check.due("18 negative place", x.way(-1, 0), -1);
        Check.due("19 called", x.called(0), 71);
        Check.due("19 called", x.called(1), 72);
        Check.due("19 no call", x.called(2), -1);
        Check.due("19 no place", x.called(10), -1);
        Check.due("19 negative place", x.called(-1), -1);
        x.end(0);
        Check.due("17 one", x.calls(), 1);
        Check.due("18 ended", x.way(0, 0), -1);
        Check.due("19 ended", x.called(0), -1);
        Check.due("19 the other one stays", x.called(1), 72);
        CallRouter y = SetupPromisesTest.withSwitches(6);
        for (int s = 0; s < 5; s++) {
            y.addRoute(s, 0, s + 1, 1, 1);
        }
        y.addRoute(5, 0, 5, 0, 1);
        y.setLimit(6);
        y.call(0, 5);
        Check.due("18 the longest way", y.way(0, 5), 5);
        Check.due("18 the longest way", y.way(0, 6), -9);
    }

    private static void promise20Owes() {
        CallRouter x = SetupPromisesTest.withSwitches(2);
        x.addRoute(0, 0, 1, 4, 1);
        x.addRoute(1, 0, 1, 8, 1);
        x.addRoute(1, 9, 0, 5, 1);
        x.addRoute(0, 9, 0, 5, 1);
        x.call(0, 1);
        Check.due("20 nothing before the end", x.owes(0, 1), 0);
        x.end(0);
        x.call(1, 9);
        x.end(0);
        Check.due("20 owes", x.owes(0, 1), 4);
        Check.due("20 the other way has its own sum", x.owes(1, 0), 5);
        Check.due("20 the same", x.owes(0, 0), 0);
        Check.due("20 the same", x.owes(1, 1), 0);
        Check.due("20 no such switch", x.owes(0, 2), -1);
        Check.due("20 no such switch", x.owes(2, 0), -1);
        Check.due("20 the same, but no such switch", x.owes(2, 2), -1);
        Check.due("20 negative", x.owes(-1, 0), -1);
        Check.due("20 negative", x.owes(0, -1), -1);
    }

    private static void promise21And22Attempts() {
        CallRouter x = SetupPromisesTest.withSwitches(3);
        Check.due("21 no call", x.attempts(), 0);
        Check.due("22 no call", x.attempt(0, 0), -1);
        x.addRoute(0, 0, 1, 1, 1);
        x.addRoute(0, 0, 2, 2, 1);
        x.addRoute(2, 0, 0, 1, 1);
        x.addRoute(2, 0, 2, 2, 1);
        x.call(0, 5);
        int[] due = {0, 1, 1, 0, 2, 3, 3, 0};
        Check.due("21 attempts", x.attempts(), 4);
        for (int i = 0; i < due.length; i++) {
            Check.due("22 attempt " + i, x.attempt(i / 2, i % 2), due[i]);
        }
        Check.due("22 no such attempt", x.attempt(4, 0), -1);
        Check.due("22 negative", x.attempt(-1, 0), -1);
        Check.due("22 what", x.attempt(0, 2), -1);
        Check.due("22 what negative", x.attempt(0, -1), -1);
        x.call(0, 6);
        Check.due("21 replaced", x.attempts(), 2);
        Check.due("22 no lines", x.attempt(1, 1), 2);
        x.call(1, 6);
        Check.due("21 no attempt", x.attempts(), 0);
        Check.due("22 no attempt", x.attempt(0, 0), -1);
        x.call(0, 6);
        x.call(5, 6);
        Check.due("21 errors keep it", x.attempts(), 2);
    }

    private static void promise23Cheapest() {
        CallRouter x = SetupPromisesTest.withSwitches(4);
        x.addRoute(0, 0, 1, 10, 1);
        x.addRoute(0, 0, 2, 1, 1);
        x.addRoute(2, 0, 1, 2, 1);
        x.addRoute(1, 0, 1, 100, 1);
        x.addRoute(0, 5, 1, 500, 1);
        x.addRoute(0, 5, 1, 400, 1);
        Check.due("23 no such switch", x.cheapest(4, 1), -1);
        Check.due("23 negative switch", x.cheapest(-1, 1), -1);
        Check.due("23 number 0", x.cheapest(0, 0), -1);
        Check.due("23 great number", x.cheapest(0, 1000000000), -1);
        Check.due("23 by way of 2", x.cheapest(0, 1), 3);
        Check.due("23 serving counts nothing", x.cheapest(1, 1), 0);
        Check.due("23 only the longest prefix", x.cheapest(0, 51), 400);
        Check.due("23 no way", x.cheapest(3, 1), -9);
        x.setCost(1, 1, 1000);
        Check.due("23 in this band", x.cheapest(0, 1), 10);
        x.pass(480);
        Check.due("23 in the other band", x.cheapest(0, 1), 3);
        Check.due("23 it is no act", x.undo(), 4);
        Check.due("23 no attempt", x.attempts(), 0);
    }

    private static void promise23HopsAndLoops() {
        CallRouter x = SetupPromisesTest.withSwitches(7);
        for (int s = 0; s < 6; s++) {
            x.addRoute(s, 0, s + 1, 1, 1);
        }
        x.addRoute(6, 0, 6, 0, 1);
        x.addRoute(0, 0, 6, 900, 1);
        Check.due("23 too many hops for the long way", x.cheapest(0, 1), 900);
        Check.due("23 too many hops", x.cheapest(1, 1), -9);
        Check.due("23 just not too many", x.cheapest(2, 1), 4);
        x.setLimit(6);
        Check.due("23 more hops", x.cheapest(1, 1), 5);
        Check.due("23 seven switches", x.cheapest(0, 1), 900);
        x.setLimit(1);
        Check.due("23 only itself", x.cheapest(5, 1), -9);
        Check.due("23 only itself", x.cheapest(6, 1), 0);
    }

    /** Switch 1 looks numbers up and can send marked calls only by way of 0, where they have been. */
    private static void promise23Marks() {
        CallRouter x = SetupPromisesTest.withSwitches(4);
        x.setLookup(1, true);
        x.port(5, 3);
        x.addRoute(0, 0, 1, 1, 1);
        x.addRoute(0, 9903, 3, 1, 1);
        x.addRoute(1, 0, 0, 1, 1);
        Check.due("23 back to 0 is a loop", x.cheapest(0, 5), -9);
        Check.due("23 from 1 it is none", x.cheapest(1, 5), 2);
        Check.due("23 another way to 1", x.addRoute(2, 0, 1, 1, 1), 3);
        Check.due("23 marked behind 1", x.cheapest(2, 5), 3);
        Check.due("23 not ported", x.cheapest(2, 6), -9);
        x.addRoute(1, 99035, 2, 7, 1);
        Check.due("23 a longer prefix that leads back", x.cheapest(2, 5), -9);
        x.setLookup(3, true);
        Check.due("23 ends where it is looked up", x.cheapest(3, 5), 0);
        x.addRoute(0, 0, 3, 20, 1);
        Check.due("23 plain up to 3", x.cheapest(0, 5), 20);
    }

    private static void promise23AsIfAllWereFree() {
        CallRouter x = SetupPromisesTest.withSwitches(3);
        x.addRoute(0, 0, 1, 5, 1);
        x.addRoute(0, 0, 2, 9, 1);
        x.addRoute(1, 0, 1, 0, 1);
        x.addRoute(2, 0, 2, 0, 1);
        x.call(0, 7);
        Check.due("23 lines occupied, number busy", x.cheapest(0, 7), 5);
        x.setCodes(0, 0);
        x.undo();
        x.undo();
        x.addRoute(1, 7, 2, 0, 1);
        x.addRoute(2, 7, 1, 0, 1);
        x.setCodes(0, 0);
        x.setCodes(1, 0);
        x.setCodes(2, 0);
        Check.due("23 codes do not matter", x.cheapest(0, 71), -9);
        x.addRoute(2, 7, 2, 1000, 1);
        Check.due("23 any of the routes", x.cheapest(0, 71), 5);
        Check.due("23 the call itself fails", x.call(0, 71), -13);
    }

    /** As many ways as forty routes can make must not take long. */
    private static void promise23Dense() {
        CallRouter x = SetupPromisesTest.withSwitches(8);
        for (int i = 0; i < 40; i++) {
            int s = i % 8;
            x.addRoute(s, 0, (s + 1 + i / 8) % 8, 1 + i, 1);
        }
        x.setLimit(6);
        for (int i = 0; i < 400; i++) {
            Check.due("23 many ways", x.cheapest(i % 8, 5), -9);
        }
        CallRouter y = SetupPromisesTest.withSwitches(7);
        for (int i = 0; i < 40; i++) {
            y.addRoute(i % 6, 0, i % 6 + 1, i, 1);
        }
        y.setLimit(6);
        for (int i = 0; i < 400; i++) {
            Check.due("23 many routes side by side", y.cheapest(i % 6, 5), -9);
        }
    }
}
