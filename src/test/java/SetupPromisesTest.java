/** Promises 1 to 9: a new object, switches, routes, ported numbers. */
final class SetupPromisesTest {
    public static void main(String[] args) {
        promise1NewObject();
        promise2AddSwitch();
        promise3SetLookup();
        promise4SetCodes();
        promise4FirstCodes();
        promise5SetLimit();
        promise6AddRoute();
        promise7SetCost();
        promise8Port();
        promise9Unport();
        Check.finish();
    }

    static CallRouter withSwitches(int count) {
        CallRouter x = new CallRouter();
        for (int i = 0; i < count; i++) {
            x.addSwitch();
        }
        return x;
    }

    private static void promise1NewObject() {
        CallRouter x = new CallRouter();
        Check.due("1 time", x.time(), 0);
        Check.due("1 band", x.band(), 1);
        Check.due("1 calls", x.calls(), 0);
        Check.due("1 attempts", x.attempts(), 0);
        Check.due("1 no history", x.undo(), -9);
        Check.due("1 empty buffer", x.clear(), 0);
        Check.due("1 no switch", x.owes(0, 0), -1);
        Check.due("1 no route", x.route(0, 0), -1);
        long sum = 79;
        for (int n : new int[] {0, 0, 0, 5, 0, 0}) {
            sum = 31 * sum + n;
        }
        Check.due("1 fingerprint", x.fingerprint(), sum);
        CallRouter y = withSwitches(2);
        Check.due("1 objects are apart", x.owes(0, 0), -1);
        Check.due("1 objects are apart", y.owes(0, 1), 0);
    }

    private static void promise2AddSwitch() {
        CallRouter x = new CallRouter();
        for (int i = 0; i < 8; i++) {
            Check.due("2 addSwitch", x.addSwitch(), i);
        }
        long sum = x.fingerprint();
        Check.due("2 ninth", x.addSwitch(), -3);
        Check.due("2 an error changes nothing", x.fingerprint(), sum);
        Check.due("2 last one is there", x.owes(7, 7), 0);
        Check.due("2 no ninth", x.owes(8, 0), -1);
        Check.due("2 an error is no act", x.undo(), 4);
        Check.due("2 undone", x.owes(7, 7), -1);
        Check.due("2 again", x.addSwitch(), 7);
    }

    private static void promise3SetLookup() {
        CallRouter x = withSwitches(2);
        Check.due("3 no such switch", x.setLookup(2, true), -1);
        Check.due("3 negative", x.setLookup(-1, true), -1);
        Check.due("3 first off", x.setLookup(0, false), 0);
        Check.due("3 on", x.setLookup(0, true), 0);
        Check.due("3 still on", x.setLookup(0, true), 1);
        Check.due("3 another", x.setLookup(1, false), 0);
        Check.due("3 off", x.setLookup(0, false), 1);
        x.port(5, 1);
        x.addRoute(0, 9901, 1, 1, 1);
        Check.due("3 not looked up", x.call(0, 5), -11);
        x.setLookup(0, true);
        Check.due("3 looked up", x.call(0, 5), 0);
        x.undo();
        Check.due("3 an act", x.undo(), 3);
        Check.due("3 undone", x.setLookup(0, true), 0);
    }

    private static void promise4SetCodes() {
        CallRouter x = withSwitches(1);
        Check.due("4 no such switch", x.setCodes(1, 2), -1);
        Check.due("4 negative switch", x.setCodes(-1, 2), -1);
        Check.due("4 odd", x.setCodes(0, 1), -1);
        Check.due("4 odd", x.setCodes(0, 61), -1);
        Check.due("4 too great", x.setCodes(0, 64), -1);
        Check.due("4 too great", x.setCodes(0, 63), -1);
        Check.due("4 negative", x.setCodes(0, -2), -1);
        Check.due("4 first set", x.setCodes(0, 62), 30);
        Check.due("4 greatest", x.setCodes(0, 0), 62);
        Check.due("4 least", x.setCodes(0, 4), 0);
        Check.due("4 an act", x.undo(), 3);
        Check.due("4 undone", x.setCodes(0, 4), 0);
    }

    /** Each of the codes 1 to 5 lets a switch go on just if it is in its set. */
    private static void promise4FirstCodes() {
        for (int code = 1; code <= 5; code++) {
            for (int bit = 0; bit <= 5; bit++) {
                CallRouter x = withSwitches(4);
                x.addRoute(0, 7, 1, 0, 1);
                x.addRoute(0, 7, 2, 1, 1);
                x.addRoute(2, 0, 2, 0, 1);
                if (code == 2) {
                    x.addRoute(1, 0, 1, 0, 1);
                    x.call(0, 71);
                } else if (code == 3) {
                    x.addRoute(1, 0, 0, 0, 1);
                } else if (code == 4) {
                    x.addRoute(1, 0, 3, 0, 1);
                    x.setLimit(2);
                } else if (code == 5) {
                    x.addRoute(1, 0, 1, 0, 1);
                    x.addRoute(3, 0, 3, 0, 1);
                    x.call(3, 72);
                }
                x.setCodes(1, 0);
                x.setCodes(0, bit == 0 ? 62 - (1 << code) : 1 << bit);
                boolean goesOn = bit == code;
                int due = !goesOn ? -10 - code : code == 5 ? -15 : code == 2 ? 1 : 0;
                Check.due("4 code " + code + " with set bit " + bit, x.call(0, 72), due);
                Check.due("4 attempts", x.attempts() > 1 && x.attempt(x.attempts() - 1, 0) == 2 ? 1 : 0,
                        goesOn ? 1 : 0);
            }
        }
    }

    private static void promise5SetLimit() {
        CallRouter x = withSwitches(7);
        for (int s = 0; s < 6; s++) {
            x.addRoute(s, 0, s + 1, 1, 1);
        }
        x.addRoute(6, 0, 6, 0, 1);
        Check.due("5 too small", x.setLimit(0), -1);
        Check.due("5 too great", x.setLimit(7), -1);
        Check.due("5 first limit", x.setLimit(1), 5);
        Check.due("5 one hop", x.call(0, 1), -14);
        Check.due("5 one attempt", x.attempts(), 1);
        Check.due("5 served at once", x.call(6, 1), 0);
        Check.due("5 change", x.setLimit(6), 1);
        Check.due("5 seven switches are too many", x.call(0, 2), -14);
        Check.due("5 six attempts", x.attempts(), 6);
        Check.due("5 six switches are not", x.call(1, 2), 1);
        Check.due("5 change", x.setLimit(5), 6);
        Check.due("5 an act", x.undo(), 4);
        Check.due("5 undone", x.setLimit(3), 6);
    }

    private static void promise6AddRoute() {
        CallRouter x = withSwitches(2);
        Check.due("6 no such switch", x.addRoute(2, 0, 0, 0, 1), -1);
        Check.due("6 negative switch", x.addRoute(-1, 0, 0, 0, 1), -1);
        Check.due("6 no next switch", x.addRoute(0, 0, 2, 0, 1), -1);
        Check.due("6 negative next", x.addRoute(0, 0, -1, 0, 1), -1);
        Check.due("6 negative prefix", x.addRoute(0, -1, 0, 0, 1), -1);
        Check.due("6 great prefix", x.addRoute(0, 1000000000, 0, 0, 1), -1);
        Check.due("6 negative cost", x.addRoute(0, 0, 0, -1, 1), -1);
        Check.due("6 great cost", x.addRoute(0, 0, 0, 1001, 1), -1);
        Check.due("6 no lines", x.addRoute(0, 0, 0, 0, 0), -1);
        Check.due("6 many lines", x.addRoute(0, 0, 0, 0, 21), -1);
        Check.due("6 first", x.addRoute(1, 999999999, 0, 1000, 20), 0);
        int[] due = {1, 999999999, 0, 1000, 1000, 1000, 20, 0};
        for (int what = 0; what < 8; what++) {
            Check.due("6 route(0, " + what + ")", x.route(0, what), due[what]);
        }
        for (int i = 1; i < 40; i++) {
            Check.due("6 more", x.addRoute(0, 0, 0, 0, 1), i);
        }
        Check.due("6 full", x.addRoute(0, 0, 0, 0, 1), -3);
        Check.due("6 BAD before FULL", x.addRoute(0, 0, 0, 0, 0), -1);
        Check.due("6 an act", x.undo(), 4);
        Check.due("6 undone", x.route(39, 0), -1);
        Check.due("6 again", x.addRoute(1, 4, 0, 3, 2), 39);
        Check.due("6 again", x.route(39, 1), 4);
    }

    private static void promise7SetCost() {
        CallRouter x = withSwitches(2);
        x.addRoute(0, 0, 1, 7, 1);
        x.addRoute(0, 0, 1, 8, 1);
        Check.due("7 no such route", x.setCost(2, 0, 0), -1);
        Check.due("7 negative route", x.setCost(-1, 0, 0), -1);
        Check.due("7 negative band", x.setCost(0, -1, 0), -1);
        Check.due("7 great band", x.setCost(0, 3, 0), -1);
        Check.due("7 negative cost", x.setCost(0, 0, -1), -1);
        Check.due("7 great cost", x.setCost(0, 0, 1001), -1);
        Check.due("7 set", x.setCost(0, 2, 1000), 7);
        Check.due("7 set", x.setCost(0, 0, 0), 7);
        Check.due("7 set again", x.setCost(0, 2, 3), 1000);
        Check.due("7 band 0", x.route(0, 3), 0);
        Check.due("7 band 1", x.route(0, 4), 7);
        Check.due("7 band 2", x.route(0, 5), 3);
        Check.due("7 other route", x.route(1, 3), 8);
        Check.due("7 an act", x.undo(), 4);
        Check.due("7 undone", x.route(0, 5), 1000);
    }

    private static void promise8Port() {
        CallRouter x = withSwitches(2);
        Check.due("8 no such switch", x.port(1, 2), -1);
        Check.due("8 negative switch", x.port(1, -1), -1);
        Check.due("8 number 0", x.port(0, 0), -1);
        Check.due("8 negative number", x.port(-5, 0), -1);
        Check.due("8 great number", x.port(1000000000, 0), -1);
        Check.due("8 first", x.port(999999999, 0), -9);
        Check.due("8 again", x.port(999999999, 1), 0);
        Check.due("8 again", x.port(999999999, 1), 1);
        for (int n = 1; n < 30; n++) {
            Check.due("8 more", x.port(n, n % 2), -9);
        }
        Check.due("8 full", x.port(30, 0), -3);
        Check.due("8 BAD before FULL", x.port(30, 2), -1);
        Check.due("8 one that is ported", x.port(29, 0), 1);
        Check.due("8 an act", x.undo(), 4);
        Check.due("8 undone", x.port(29, 0), 1);
        Check.due("8 room again", x.unport(7), 1);
        Check.due("8 room again", x.port(30, 1), -9);
        Check.due("8 full again", x.port(7, 1), -3);
    }

    private static void promise9Unport() {
        CallRouter x = withSwitches(3);
        x.port(5, 2);
        x.port(6, 1);
        x.port(7, 0);
        Check.due("9 number 0", x.unport(0), -1);
        Check.due("9 great number", x.unport(1000000000), -1);
        Check.due("9 not ported", x.unport(8), -9);
        Check.due("9 ported", x.unport(5), 2);
        Check.due("9 no more", x.unport(5), -9);
        Check.due("9 the others stay", x.unport(7), 0);
        Check.due("9 the others stay", x.unport(6), 1);
        Check.due("9 acts, but for errors", x.undo(), 4);
        Check.due("9 only the last one is undone", x.unport(7), -9);
        Check.due("9 undone", x.unport(6), 1);
        CallRouter y = withSwitches(3);
        y.port(5, 2);
        y.port(6, 1);
        y.unport(5);
        y.undo();
        Check.due("9 both are back", y.unport(6), 1);
        Check.due("9 both are back", y.unport(5), 2);
    }
}
