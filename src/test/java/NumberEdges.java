/** The edges that the document names under NUMBERS and TIME, and the number of calls of an object. */
final class NumberEdges {
    private static final int[] INSIDE = {1, 9, 10, 99, 100, 999, 1000, 9999, 10000, 99999, 100000, 999999, 1000000,
        9999999, 10000000, 99999999, 100000000, 999999999};
    private static final int[] OUTSIDE = {Integer.MIN_VALUE, -999999999, -1, 0, 1000000000, Integer.MAX_VALUE};

    private NumberEdges() {
    }

    static void look() {
        calls512();
        oneToNineDigits();
        plainDigits();
        markedDigits();
        markedBySwitch();
        timeBeginsAtZero();
        weeks();
        bands();
    }

    private static void calls512() {
        Check.sentence(0, "An object is used for at most 512 calls after it has been made; what later calls answer is"
                + " free.");
        CallRouter x = new CallRouter();
        for (int i = 1; i <= 511; i++) {
            Check.due("call " + i, x.pass(1), i);
        }
        Check.due("call 512", x.undo(), 4);
        CallRouter y = Scenes.chain(2);
        for (int i = 0; i < 253; i++) {
            Check.due("a call is connected", y.call(0, 1 + i), 0);
            Check.due("a call ends", y.end(0), 1);
        }
        Check.due("call 511", y.calls(), 0);
        Check.due("call 512", y.owes(0, 1), 253);
    }

    private static CallRouter servingAll() {
        CallRouter x = Scenes.switches(1);
        x.addRoute(0, 0, 0, 0, 1);
        return x;
    }

    private static void oneToNineDigits() {
        Check.sentence(0, "A number has 1 to 9 digits, the first of which is not 0; it is told as an int from 1 to"
                + " 999999999.");
        for (int number : INSIDE) {
            CallRouter x = servingAll();
            Check.due("choice of " + number, x.choice(0, number, 0), 0);
            Check.due("cheapest of " + number, x.cheapest(0, number), 0);
            Check.due("port of " + number, x.port(number, 0), -9);
            Check.due("unport of " + number, x.unport(number), 0);
            Check.due("call of " + number, x.call(0, number), 0);
            Check.due("called " + number, x.called(0), number);
        }
        for (int number : OUTSIDE) {
            CallRouter x = servingAll();
            Check.due("choice of " + number, x.choice(0, number, 0), -1);
            Check.due("cheapest of " + number, x.cheapest(0, number), -1);
            Check.due("port of " + number, x.port(number, 0), -1);
            Check.due("unport of " + number, x.unport(number), -1);
            Check.due("call of " + number, x.call(0, number), -1);
            Check.due("no call", x.calls(), 0);
        }
    }

    /** Answers the call of a number at a switch with one route, by a prefix of digits. */
    private static int callBy(CallRouter x, int s, int next, String prefix, int number) {
        x.addRoute(s, prefix.isEmpty() ? 0 : Integer.parseInt(prefix), next, 1, 1);
        return x.call(s, number);
    }

    /** The same digits but for the last one. */
    private static String other(String digits) {
        int last = digits.length() - 1;
        char sign = digits.charAt(last) == '1' ? '2' : '1';
        return digits.substring(0, last) + sign;
    }

    private static void plainDigits() {
        Check.sentence(0, "On its way a number is a sequence of digits: the number itself, or,");
        for (int number : new int[] {7, 70, 701, 123456789, 100000000, 999999999}) {
            String digits = String.valueOf(number);
            for (int length = 0; length <= digits.length(); length++) {
                String prefix = digits.substring(0, length);
                Check.due(number + " by " + prefix, callBy(Scenes.switches(1), 0, 0, prefix, number), 0);
                if (length > 0) {
                    Check.due(number + " by " + other(prefix),
                            callBy(Scenes.switches(1), 0, 0, other(prefix), number), -11);
                }
            }
            for (int digit = 0; digit < 10 && digits.length() < 9; digit++) {
                Check.due(number + " by " + digits + digit,
                        callBy(Scenes.switches(1), 0, 0, digits + digit, number), -11);
            }
        }
    }

    /** Switch s looks numbers up, and this one is ported to q. */
    private static CallRouter looking(int s, int q, int number) {
        CallRouter x = Scenes.switches(8);
        x.setLookup(s, true);
        x.port(number, q);
        return x;
    }

    private static void markedDigits() {
        Check.sentence(0, "if it was looked up and found to be ported to switch q, \"990\", the digit q, and the"
                + " number (a marked number).");
        for (int number : new int[] {1, 10, 9903, 12345, 123456, 123456789, 999999999}) {
            String digits = "9903" + number;
            for (int length = 0; length <= Math.min(9, digits.length()); length++) {
                String prefix = digits.substring(0, length);
                Check.due(number + " marked, by " + prefix, callBy(looking(0, 3, number), 0, 3, prefix, number), 0);
                if (length > 0) {
                    Check.due(number + " marked, by " + other(prefix),
                            callBy(looking(0, 3, number), 0, 3, other(prefix), number), -11);
                }
            }
            for (int digit = 0; digit < 10 && digits.length() < 9; digit++) {
                Check.due(number + " marked, by " + digits + digit,
                        callBy(looking(0, 3, number), 0, 3, digits + digit, number), -11);
            }
        }
        Check.due("its own digits do not stand in front", callBy(looking(0, 3, 12), 0, 3, "1", 12), -11);
    }

    private static void markedBySwitch() {
        Check.sentence(0, "found to be ported to switch q, \"990\", the digit q");
        for (int q = 0; q < 8; q++) {
            int s = (q + 1) % 8;
            for (int digit = 0; digit < 10; digit++) {
                String prefix = "990" + digit;
                Check.due("ported to " + q + ", by " + prefix, callBy(looking(s, q, 45), s, q, prefix, 45),
                        digit == q ? 0 : -11);
                Check.due("ported to " + q + ", by " + prefix + 4, callBy(looking(s, q, 45), s, q, prefix + 4, 45),
                        digit == q ? 0 : -11);
            }
        }
    }

    private static void timeBeginsAtZero() {
        Check.sentence(0, "The time is a number of minutes, initially 0.");
        CallRouter x = new CallRouter();
        Check.due("time", x.time(), 0);
        Check.due("band", x.band(), 1);
        x.pass(1);
        Check.due("time", x.time(), 1);
    }

    private static int bandAt(int time) {
        CallRouter x = new CallRouter();
        Scenes.passTo(x, time);
        Check.due("time", x.time(), time);
        return x.band();
    }

    private static void weeks() {
        Check.sentence(0, "Its minute of the week is the time modulo 10080; day 0 consists of the first 1440 minutes,"
                + " and so on.");
        int[] minutes = {0, 479, 480, 1199, 1200, 1439, 1440, 7199, 7200, 10079};
        int[] bands = {1, 1, 0, 0, 1, 1, 1, 1, 2, 2};
        for (int week : new int[] {0, 1, 2, 50, 97, 98}) {
            for (int i = 0; i < minutes.length; i++) {
                int time = week * 10080 + minutes[i];
                Check.due("band at " + time, bandAt(time), bands[i]);
            }
        }
        Check.due("band behind the last whole week", bandAt(99 * 10080), 1);
        Check.due("band at the end of time", bandAt(1000000), 0);
    }

    /** Every minute of the first week and of a day more. */
    private static void bands() {
        Check.sentence(0, "The band of a time is 2 on the days 5 and 6; otherwise 0 if the minute of the day is from"
                + " 480 to 1199, and 1 if not.");
        int[] firstMinutes = {0, 480, 1200, 1920, 2640, 3360, 4080, 4800, 5520, 6240, 6960, 7200, 10080, 10560, 11280};
        int[] bands = {1, 0, 1, 0, 1, 0, 1, 0, 1, 0, 1, 2, 1, 0, 1};
        int at = 0;
        for (int time = 0; time < 11520; time++) {
            if (at + 1 < firstMinutes.length && time == firstMinutes[at + 1]) {
                at++;
            }
            Check.due("band at " + time, bandAt(time), bands[at]);
        }
    }
}
