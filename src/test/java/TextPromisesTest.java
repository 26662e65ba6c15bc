/** Promises 24 to 26: texts. */
final class TextPromisesTest {
    public static void main(String[] args) {
        promise24Type();
        promise25Clear();
        promise26Commands();
        promise26ErrorPlaces();
        promise26NotPossible();
        promise26Limits();
        promise26OneAct();
        Check.finish();
    }

    static void type(CallRouter x, String text) {
        for (int i = 0; i < text.length(); i++) {
            Check.due("24 type " + text, x.type(text.charAt(i)), i + 1);
        }
    }

    private static int runOf(CallRouter x, String text) {
        x.clear();
        type(x, text);
        return x.run();
    }

    private static void promise24Type() {
        CallRouter x = new CallRouter();
        Check.due("24 too small", x.type(31), -1);
        Check.due("24 too great", x.type(127), -1);
        Check.due("24 negative", x.type(-1), -1);
        Check.due("24 a low byte that would fit", x.type(256 + 'l'), -1);
        Check.due("24 least", x.type(32), 1);
        Check.due("24 greatest", x.type(126), 2);
        for (int i = 3; i <= 80; i++) {
            Check.due("24 more", x.type('a'), i);
        }
        Check.due("24 full", x.type('a'), -3);
        Check.due("24 BAD before FULL", x.type(31), -1);
        Check.due("24 it is no act", x.undo(), -9);
        Check.due("24 eighty", x.clear(), 80);
    }

    private static void promise25Clear() {
        CallRouter x = new CallRouter();
        Check.due("25 empty", x.clear(), 0);
        type(x, "abc");
        Check.due("25 three", x.clear(), 3);
        Check.due("25 empty then", x.clear(), 0);
        Check.due("25 from the start", x.type('l'), 1);
        Check.due("25 it is no act", x.undo(), -9);
        Check.due("25 undo does not touch it", x.clear(), 1);
    }

    private static void promise26Commands() {
        CallRouter x = SetupPromisesTest.withSwitches(3);
        Check.due("26 a route", runOf(x, "r2>1:470@0012x0003"), 1);
        int[] due = {2, 470, 1, 12, 12, 12, 3, 0};
        for (int what = 0; what < 8; what++) {
            Check.due("26 route(0, " + what + ")", x.route(0, what), due[what]);
        }
        Check.due("26 the buffer is empty then", x.clear(), 0);
        Check.due("26 more", runOf(x, "r0>0:@1000x20;p999999999>2;l1;p999999999>1;r1>2:123456789@0x1"), 5);
        Check.due("26 empty prefix", x.route(1, 1), 0);
        Check.due("26 greatest cost", x.route(1, 3), 1000);
        Check.due("26 greatest lines", x.route(1, 6), 20);
        Check.due("26 nine digits", x.route(2, 1), 123456789);
        Check.due("26 ported", x.unport(999999999), 1);
        Check.due("26 lookup", x.setLookup(1, false), 1);
        Check.due("26 the others do not", x.setLookup(0, false), 0);
    }

    private static void promise26ErrorPlaces() {
        String[] texts = {"", ";", "x", "r", "rx", "r0", "r0:", "r0>", "r0>>", "r0>1", "r0>1@", "r0>1:", "r0>1:x",
            "r0>1:0@1x1", "r0>1:10@1x1 ", "r0>1:1234567890@1x1", "r0>1:123456789", "r0>1:@", "r0>1:@x1", "r0>1:@12345x1",
            "r0>1:@1234", "r0>1:@1x", "r0>1:@1xx", "r0>1:@1x;", "r0>1:@1x12345", "r0>1:@1x1l0", "r0>1:@1x1;",
            "p", "p>1", "p01>1", "p0>1", "p1234567890>1", "p123456789", "p1>", "p1>x", "p1>11", "p1", "l", "lx", "l00",
            "l0;", "l0;;l0", "l0 ;l0", "l0; l0", " l0", "L0", "l0;p1>0;r0>0:7@1x1;q", "r00>1:@1x1", "r0>11:@1x1", "l-1"};
        int[] places = {0, 0, 0, 1, 1, 2, 2, 3, 3, 4, 4, 5, 5,
            5, 11, 14, 14, 6, 6, 10,
            10, 8, 8, 8, 12, 9, 10,
            1, 1, 1, 1, 10, 10, 3, 3, 4, 2, 1, 1, 2,
            3, 3, 2, 3, 0, 0, 19, 2, 4, 1};
        CallRouter x = SetupPromisesTest.withSwitches(2);
        Check.due("26 as many places as texts", places.length, texts.length);
        long sum = x.fingerprint();
        for (int i = 0; i < texts.length && i < places.length; i++) {
            Check.due("26 run of \"" + texts[i] + "\"", runOf(x, texts[i]), -100 - places[i]);
            Check.due("26 the buffer stays", x.clear(), texts[i].length());
        }
        Check.due("26 nothing is changed", x.fingerprint(), sum);
        Check.due("26 no act", x.undo(), 1);
        Check.due("26 an error behind what is not possible", runOf(x, "l9;q"), -103);
    }

    private static void promise26NotPossible() {
        String[] texts = {"l2", "l8", "l9", "l0;l2", "p5>2", "p5>0;p5>9", "r2>0:@1x1", "r0>2:@1x1", "r0>1:@1001x1",
            "r0>1:@9999x1", "r0>1:@1x0", "r0>1:@1x21", "l0;l1;r0>1:@1x00"};
        int[] indexes = {0, 0, 0, 1, 0, 1, 0, 0, 0, 0, 0, 0, 2};
        CallRouter x = SetupPromisesTest.withSwitches(2);
        long sum = x.fingerprint();
        for (int i = 0; i < texts.length; i++) {
            Check.due("26 run of \"" + texts[i] + "\"", runOf(x, texts[i]), -1000 - indexes[i]);
            Check.due("26 nothing is changed", x.fingerprint(), sum);
            Check.due("26 the buffer stays", x.clear(), texts[i].length());
        }
        Check.due("26 not even what is not in the fingerprint", x.setLookup(0, false), 0);
        Check.due("26 not even ports", x.unport(5), -9);
        x.undo();
        Check.due("26 no act", x.undo(), 1);
    }

    private static void promise26Limits() {
        CallRouter x = SetupPromisesTest.withSwitches(1);
        StringBuilder text = new StringBuilder("l0");
        for (int i = 1; i < 27; i++) {
            text.append(";l0");
        }
        Check.due("26 as many commands as there can be", runOf(x, text.toString()), 27);
        for (int i = 0; i < 38; i++) {
            x.addRoute(0, 0, 0, 0, 1);
        }
        Check.due("26 the 41st route", runOf(x, "r0>0:@1x1;r0>0:@1x1;r0>0:@1x1"), -1002);
        Check.due("26 nothing is changed", x.route(38, 0), -1);
        Check.due("26 forty routes", runOf(x, "r0>0:@1x1;r0>0:@1x1"), 2);
        for (int n = 1; n <= 29; n++) {
            x.port(n, 0);
        }
        Check.due("26 the 31st number", runOf(x, "p30>0;p30>0;p31>0"), -1002);
        Check.due("26 a number that is ported", runOf(x, "p30>0;p30>0;p1>0"), 3);
        Check.due("26 thirty numbers", x.port(31, 0), -3);
    }

    private static void promise26OneAct() {
        CallRouter x = SetupPromisesTest.withSwitches(2);
        Check.due("26 three commands", runOf(x, "l0;p5>1;r0>1:9@1x1"), 3);
        type(x, "l1");
        Check.due("26 one act", x.undo(), 2);
        Check.due("26 undone", x.route(0, 0), -1);
        Check.due("26 undone", x.unport(5), -9);
        Check.due("26 undone", x.setLookup(0, false), 0);
        Check.due("26 undo leaves the buffer", x.clear(), 2);
        CallRouter y = SetupPromisesTest.withSwitches(2);
        for (int i = 0; i < 8; i++) {
            y.setLimit(1 + i % 6);
        }
        runOf(y, "l0;l9");
        Check.due("26 a run that fails drops no state", y.undo(), 4);
        Check.due("26 the latest one", y.setLimit(1), 1);
        runOf(y, "l0;l1");
        for (int i = 4; i >= 0; i--) {
            Check.due("26 five states", y.undo(), i);
        }
        Check.due("26 no more", y.undo(), -9);
    }
}
