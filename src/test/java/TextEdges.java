import java.util.function.Supplier;

/** The edges that the document names under TEXTS, and the promises 24 to 26. */
final class TextEdges {
    private static final String DIGITS = "0123456789";
    private static final String[] NOT_POSSIBLE = {"l4", "l9", "p9>4", "r4>0:@1x1", "r0>4:@1x1", "r0>0:@1001x1",
        "r0>0:@1x0", "r0>0:@1x21", "r9>9:999999999@9999x9999"};

    private TextEdges() {
    }

    static void look() {
        buffer();
        commandsBetween();
        kinds();
        switchesAreOneDigit();
        prefixes();
        digits();
        numbers();
        firstWrongCharacter();
        tooManyDigits();
        endsTooEarly();
        type();
        clear();
        carriesOut();
        oneAct();
        errorsOfTexts();
        notPossible();
        behindTheCommandsBefore();
        nothingIsChanged();
    }

    private static void buffer() {
        Check.sentence(0, "There is a buffer of at most 80 characters with codes from 32 to 126, initially empty.");
        CallRouter x = new CallRouter();
        Check.due("empty", x.clear(), 0);
        Check.due("empty", x.run(), -100);
        for (int i = 1; i <= 80; i++) {
            Check.due("character " + i, x.type('l'), i);
        }
        Check.due("character 81", x.type('l'), -3);
        Check.due("80 characters", x.clear(), 80);
        for (int c = -300; c <= 500; c++) {
            Check.due("code " + c, new CallRouter().type(c), c >= 32 && c <= 126 ? 1 : -1);
        }
    }

    private static void commandsBetween() {
        Check.sentence(0, "A text consists of one or more commands with \";\" between them.");
        StringBuilder text = new StringBuilder();
        for (int count = 1; count <= 27; count++) {
            text.append(count == 1 ? "l0" : ";l0");
            Check.due(count + " commands", Scenes.run(Scenes.switches(1), text.toString()), count);
        }
        String most = text.toString();
        Check.due("80 characters", most.length(), 80);
        Check.due("none", Scenes.run(Scenes.switches(1), ""), -100);
        Check.due("\";\" in front", Scenes.run(Scenes.switches(1), ";l0"), -100);
        Check.due("\";\" behind", Scenes.run(Scenes.switches(1), "l0;"), -103);
        Check.due("\";\" twice", Scenes.run(Scenes.switches(1), "l0;;l0"), -103);
        Check.due("no \";\"", Scenes.run(Scenes.switches(1), "l0l0"), -102);
        Check.due("a comma", Scenes.run(Scenes.switches(1), "l0,l0"), -102);
        Check.due("the last character of 80", Scenes.run(Scenes.switches(1), most.substring(0, 79) + "l"), -179);
        Check.due("it ends behind 79", Scenes.run(Scenes.switches(1), most.substring(0, 79)), -179);
        Check.due("it ends behind 78", Scenes.run(Scenes.switches(1), most.substring(0, 78)), -178);
        Check.due("80 characters, 26 commands", Scenes.run(Scenes.switches(1), "p12>0" + ";l0".repeat(25)), 26);
    }

    private static void kinds() {
        Check.sentence(0, "A command is one of: \"r\" switch \">\" switch \":\" prefix \"@\" number \"x\" number (add"
                + " a route with this cost in all bands and so many lines); \"p\" digits \">\" switch (port a"
                + " number); \"l\" switch (let it look numbers up).");
        CallRouter x = Scenes.switches(3);
        Check.due("a route", Scenes.run(x, "r2>1:470@12x3"), 1);
        int[] due = {2, 470, 1, 12, 12, 12, 3, 0};
        for (int what = 0; what < 8; what++) {
            Check.due("its number " + what, x.route(0, what), due[what]);
        }
        Check.due("a ported number", Scenes.run(x, "p470>2"), 1);
        Check.due("ported again", Scenes.run(x, "p470>1"), 1);
        Check.due("ported to", x.unport(470), 1);
        Check.due("a switch that looks up", Scenes.run(x, "l1"), 1);
        Check.due("and once more", Scenes.run(x, "l1"), 1);
        Check.due("it looks up", x.setLookup(1, true), 1);
        Check.due("the others do not", x.setLookup(0, true), 0);
        Check.due("the others do not", x.setLookup(2, true), 0);
        for (char c = 32; c <= 126; c++) {
            int wrong = "rpl".indexOf(c) >= 0 ? -101 : -100;
            Check.due("a command that begins with " + c, Scenes.run(x, String.valueOf(c)), wrong);
        }
    }

    private static void switchesAreOneDigit() {
        Check.sentence(0, "A switch is one digit;");
        for (int s = 0; s <= 9; s++) {
            int due = s < 8 ? 1 : -1000;
            Check.due("l" + s, Scenes.run(Scenes.switches(8), "l" + s), due);
            Check.due("p1>" + s, Scenes.run(Scenes.switches(8), "p1>" + s), due);
            Check.due("r" + s + ">0", Scenes.run(Scenes.switches(8), "r" + s + ">0:@1x1"), due);
            Check.due("r0>" + s, Scenes.run(Scenes.switches(8), "r0>" + s + ":@1x1"), due);
        }
        Check.due("two digits", Scenes.run(Scenes.switches(8), "l00"), -102);
        Check.due("two digits", Scenes.run(Scenes.switches(8), "p1>00"), -104);
        Check.due("two digits", Scenes.run(Scenes.switches(8), "r00>0:@1x1"), -102);
        Check.due("two digits", Scenes.run(Scenes.switches(8), "r0>00:@1x1"), -104);
        Check.due("no digit", Scenes.run(Scenes.switches(8), "l;l0"), -101);
        Check.due("no digit", Scenes.run(Scenes.switches(8), "p1>"), -103);
        Check.due("no digit", Scenes.run(Scenes.switches(8), "r>0:@1x1"), -101);
        Check.due("no digit", Scenes.run(Scenes.switches(8), "r0>:@1x1"), -103);
    }

    private static void prefixes() {
        Check.sentence(0, "a prefix is 0 to 9 digits, of which the first one is not 0;");
        String nines = "999999999";
        for (int length = 0; length <= 9; length++) {
            CallRouter x = Scenes.switches(1);
            String prefix = nines.substring(0, length);
            Check.due("prefix " + prefix, Scenes.run(x, "r0>0:" + prefix + "@1x1"), 1);
            Check.due("its value", x.route(0, 1), length == 0 ? 0 : Integer.parseInt(prefix));
        }
        for (char first = '0'; first <= '9'; first++) {
            CallRouter x = Scenes.switches(1);
            Check.due("first digit " + first, Scenes.run(x, "r0>0:" + first + "@1x1"), first == '0' ? -105 : 1);
            Check.due("its value", x.route(0, 1), first == '0' ? -1 : first - '0');
        }
        Check.due("0 in front", Scenes.run(Scenes.switches(1), "r0>0:01@1x1"), -105);
        CallRouter y = Scenes.switches(1);
        Check.due("0 behind", Scenes.run(y, "r0>0:100000000@1x1"), 1);
        Check.due("its value", y.route(0, 1), 100000000);
        Check.due("ten digits", Scenes.run(Scenes.switches(1), "r0>0:1234567890@1x1"), -114);
    }

    private static void digits() {
        Check.sentence(0, "digits are 1 to 9 digits, of which the first one is not 0;");
        String number = "908070605";
        for (int length = 1; length <= 9; length++) {
            CallRouter x = Scenes.switches(1);
            Check.due("digits", Scenes.run(x, "p" + number.substring(0, length) + ">0"), 1);
            Check.due("their value", x.unport(Integer.parseInt(number.substring(0, length))), 0);
        }
        Check.due("no digit", Scenes.run(Scenes.switches(1), "p>0"), -101);
        for (char first = '0'; first <= '9'; first++) {
            Check.due("first digit " + first, Scenes.run(Scenes.switches(1), "p" + first + ">0"),
                    first == '0' ? -101 : 1);
        }
        Check.due("0 in front", Scenes.run(Scenes.switches(1), "p012>0"), -101);
        CallRouter y = Scenes.switches(1);
        Check.due("the greatest number", Scenes.run(y, "p999999999>0"), 1);
        Check.due("the greatest number", y.unport(999999999), 0);
        Check.due("ten digits", Scenes.run(Scenes.switches(1), "p1234567890>0"), -110);
    }

    private static void numbers() {
        Check.sentence(0, "a number is 1 to 4 digits (zeros can stand in front).");
        String[] costs = {"0", "9", "00", "10", "000", "010", "999", "0000", "0001", "0999", "1000"};
        for (String cost : costs) {
            CallRouter x = Scenes.switches(1);
            Check.due("cost " + cost, Scenes.run(x, "r0>0:@" + cost + "x1"), 1);
            Check.due("its value", x.route(0, 3), Integer.parseInt(cost));
        }
        for (String lines : new String[] {"1", "9", "01", "20", "001", "020", "0001", "0020"}) {
            CallRouter x = Scenes.switches(1);
            Check.due("lines " + lines, Scenes.run(x, "r0>0:@1x" + lines), 1);
            Check.due("their value", x.route(0, 6), Integer.parseInt(lines));
        }
        for (String lines : new String[] {"0", "00", "000", "0000", "21", "021", "0021", "100", "1000", "9999"}) {
            Check.due("lines " + lines, Scenes.run(Scenes.switches(1), "r0>0:@1x" + lines), -1000);
        }
        Check.due("cost 1001", Scenes.run(Scenes.switches(1), "r0>0:@1001x1"), -1000);
        Check.due("cost 9999", Scenes.run(Scenes.switches(1), "r0>0:@9999x1"), -1000);
        Check.due("no digit", Scenes.run(Scenes.switches(1), "r0>0:@x1"), -106);
        Check.due("no digit", Scenes.run(Scenes.switches(1), "r0>0:@1x"), -108);
        Check.due("no digit", Scenes.run(Scenes.switches(1), "r0>0:@1x;l0"), -108);
    }

    /** Behind each beginning of a text every character: those that can stand there are told. */
    private static void firstWrongCharacter() {
        Check.sentence(0, "The error place of a text is the index of the first character that cannot stand at its place");
        String text = "r0>1:12@5x2;p34>1;l0";
        String not0 = "123456789";
        String[] allowed = {"rpl", DIGITS, ">", DIGITS, ":", not0 + "@", DIGITS + "@", DIGITS + "@", DIGITS,
            DIGITS + "x", DIGITS, DIGITS + ";", "rpl", not0, DIGITS + ">", DIGITS + ">", DIGITS, ";", "rpl", DIGITS, ";"};
        Check.due("a set for each place", allowed.length, text.length() + 1);
        for (int at = 0; at <= text.length(); at++) {
            for (char c = 32; c <= 126; c++) {
                String wrong = text.substring(0, at) + c + "~";
                int place = allowed[at].indexOf(c) >= 0 ? at + 1 : at;
                Check.due("run of " + wrong, Scenes.run(Scenes.switches(2), wrong), -100 - place);
            }
        }
    }

    private static void tooManyDigits() {
        Check.sentence(0, "(a tenth digit of a prefix or of digits, a fifth one of a number, and a first digit 0 of a"
                + " prefix or of digits cannot),");
        for (char c = '0'; c <= '9'; c++) {
            Check.due("a tenth digit of a prefix", Scenes.run(Scenes.switches(2), "r0>1:123456789" + c + "@1x1"), -114);
            Check.due("a tenth digit of digits", Scenes.run(Scenes.switches(2), "p123456789" + c + ">1"), -110);
            Check.due("a fifth one of a cost", Scenes.run(Scenes.switches(2), "r0>1:@0001" + c + "x1"), -110);
            Check.due("a fifth one of lines", Scenes.run(Scenes.switches(2), "r0>1:@1x0001" + c), -112);
            Check.due("a fifth one of lines", Scenes.run(Scenes.switches(2), "r0>1:@1x0001" + c + ";l0"), -112);
        }
        Check.due("a first digit 0 of a prefix", Scenes.run(Scenes.switches(2), "r0>1:0123@1x1"), -105);
        Check.due("a first digit 0 of digits", Scenes.run(Scenes.switches(2), "p0123>1"), -101);
        Check.due("also behind others", Scenes.run(Scenes.switches(2), "l0;p0>1"), -104);
        Check.due("also behind others", Scenes.run(Scenes.switches(2), "l0;r0>1:0@1x1"), -108);
    }

    private static void endsTooEarly() {
        Check.sentence(0, "or its length if it ends too early.");
        String text = "r0>1:12@0005x2;p34>1;l0";
        for (int length = 0; length < text.length(); length++) {
            int due = length == 14 ? 1 : length == 20 ? 2 : -100 - length;
            Check.due("the first " + length + " characters",
                    Scenes.run(Scenes.switches(2), text.substring(0, length)), due);
        }
        Check.due("all characters", Scenes.run(Scenes.switches(2), text), 3);
    }

    private static void type() {
        Check.sentence(24, "Appends a character to the buffer.");
        CallRouter x = Scenes.switches(2);
        Check.due("first", x.type('l'), 1);
        Check.due("second", x.type('1'), 2);
        Check.due("they stand in this order", x.run(), 1);
        Check.due("they stand in this order", x.setLookup(1, true), 1);
        Check.sentence(24, "c: its code, 32 to 126");
        for (Supplier<CallRouter> scene : Scenes.SOME) {
            int size = scene.get().clear();
            Reveal.range("type", scene, CallRouter::type, new int[] {32, size < 80 ? size + 1 : -3},
                    new int[] {126, size < 80 ? size + 1 : -3});
        }
        Check.sentence(24, "Returns the number of characters in the buffer; BAD if c is not in its range; FULL if"
                + " there are 80 characters.");
        CallRouter y = new CallRouter();
        for (int i = 1; i <= 80; i++) {
            Check.due("characters", y.type(31 + i), i);
        }
        Check.due("the 81st", y.type(32), -3);
        Check.due("BAD is listed first", y.type(31), -1);
        Check.due("BAD is listed first", y.type(127), -1);
        Reveal.unchanged("the 81st", Scenes::full, z -> z.type('0'), -3);
        Reveal.unchanged("the 81st", Scenes::full, z -> z.type(';'), -3);
    }

    private static void clear() {
        Check.sentence(25, "Empties the buffer.");
        CallRouter x = Scenes.full();
        x.clear();
        Check.due("empty", x.run(), -100);
        Check.due("from the start", x.type('l'), 1);
        Check.due("only that one", x.run(), -101);
        Check.sentence(25, "Returns the number of characters that it had.");
        for (int size = 0; size <= 80; size++) {
            CallRouter y = new CallRouter();
            Scenes.type(y, "~".repeat(size));
            Check.due("characters", y.clear(), size);
            Check.due("none", y.clear(), 0);
        }
        Reveal.unchanged("clear() of an empty one", Scenes.withText(Scenes::ordinary, ""), CallRouter::clear, 0);
        CallRouter z = Scenes.ordinary();
        Check.due("no act", z.clear(), 7);
        Check.due("no act", z.undo(), 4);
        Check.due("no act", z.time(), 30);
    }

    private static void carriesOut() {
        Check.sentence(26, "Carries out the commands of the text. The buffer is empty then.");
        CallRouter x = Scenes.switches(2);
        Check.due("three", Scenes.run(x, "l0;p5>1;r0>1:9@7x2"), 3);
        Check.due("the buffer is empty", x.clear(), 0);
        Check.due("looks up", x.setLookup(0, true), 1);
        Check.due("ported", x.unport(5), 1);
        Check.due("route", x.route(0, 3), 7);
        CallRouter y = Scenes.switches(2);
        Scenes.run(y, "p5>0;p5>1;p6>1;p6>0");
        Check.due("one behind the other", y.unport(5), 1);
        Check.due("one behind the other", y.unport(6), 0);
        Scenes.run(y, "l0");
        Check.due("the buffer is empty, so nothing is left to run", y.run(), -100);
    }

    private static void oneAct() {
        Check.sentence(26, "This is one act.");
        Reveal.act("three commands", Scenes.withText(Scenes::ordinary, "l0;p8>1;r0>1:9@7x2"), CallRouter::run, 3);
        Reveal.act("one that changes nothing", Scenes.withText(Scenes::ordinary, "l1"), CallRouter::run, 1);
        Reveal.act("a number ported as it was", Scenes.withText(Scenes::ordinary, "p5>3"), CallRouter::run, 1);
        Reveal.act("27 commands", Scenes::full, CallRouter::run, 27);
        CallRouter x = Scenes.withText(Scenes::ordinary, "l0").get();
        x.run();
        Scenes.type(x, "l1");
        x.undo();
        Check.due("the buffer is no part of the state", x.clear(), 2);
    }

    private static void errorsOfTexts() {
        Check.sentence(26, "Returns the number of commands; -100 minus the error place if the text has an error;");
        for (int length = 0; length < 80; length += 3) {
            String text = "l0;".repeat(length / 3);
            Check.due("an error at " + length, Scenes.run(Scenes.switches(1), text), -100 - length);
            Check.due("an error at " + length, Scenes.run(Scenes.switches(1), text + "?"), -100 - length);
        }
        Check.due("an error at 79", Scenes.run(Scenes.switches(1), "l0;".repeat(26) + "l?"), -179);
        Check.due("the greatest error place", Scenes.run(Scenes.switches(1), "l0;".repeat(25) + "p1234"), -180);
        Check.due("an error is told before what is not possible", Scenes.run(Scenes.switches(1), "l9;?"), -103);
        Check.due("an error is told before what is not possible", Scenes.run(Scenes.switches(1), "l9;"), -103);
    }

    private static void notPossible() {
        Check.sentence(26, "-1000 minus the index of the first command, from 0, that is not possible (addRoute(),"
                + " port() or setLookup() would return an error there,");
        for (String command : NOT_POSSIBLE) {
            for (int before = 0; before < 4; before++) {
                String text = "l0;".repeat(before) + command;
                Check.due("run of " + text, Scenes.run(Scenes.ordinary(), text), -1000 - before);
                Check.due("run of " + text + " with others behind",
                        Scenes.run(Scenes.ordinary(), text + ";l0;" + command), -1000 - before);
            }
        }
        Check.due("the 27th", Scenes.run(Scenes.switches(1), "l0;".repeat(26) + "l1"), -1026);
        for (String text : new String[] {"l0", "p9>0", "r0>0:@1x1"}) {
            Check.due("no switch: " + text, Scenes.run(new CallRouter(), text), -1000);
        }
        Check.due("a 41st route", Scenes.run(Scenes.full(), "r0>0:@1x1"), -1000);
        Check.due("a 31st number", Scenes.run(Scenes.full(), "p1>0"), -1000);
        Check.due("a number that is ported", Scenes.run(Scenes.full(), "p1029>0"), 1);
    }

    private static void behindTheCommandsBefore() {
        Check.sentence(26, "behind the commands before it);");
        CallRouter x = Scenes.switches(1);
        for (int i = 0; i < 38; i++) {
            x.addRoute(0, 0, 0, 0, 1);
        }
        for (int i = 0; i < 28; i++) {
            x.port(1000 + i, 0);
        }
        Check.due("a 41st route", Scenes.run(x, "r0>0:@1x1;r0>0:@1x1;r0>0:@1x1"), -1002);
        Check.due("a 31st number", Scenes.run(x, "p1>0;p2>0;p3>0"), -1002);
        Check.due("the first one that is not possible", Scenes.run(x, "p1>0;p2>0;p3>0;l9"), -1002);
        Check.due("thirty numbers, one of them twice", Scenes.run(x, "p1>0;p2>0;p1>0;p1027>0"), 4);
        Check.due("forty routes", Scenes.run(x, "r0>0:@1x1;r0>0:@1x1"), 2);
        Check.due("a 41st route", Scenes.run(x, "r0>0:@1x1"), -1000);
        Check.due("a 31st number", Scenes.run(x, "p3>0"), -1000);
    }

    private static void nothingIsChanged() {
        Check.sentence(26, "in both cases nothing is changed, and the buffer stays.");
        for (String command : NOT_POSSIBLE) {
            String text = "l0;p8>2;p5>1;r3>3:@5x5;" + command;
            Reveal.unchanged(text, Scenes.withText(Scenes::ordinary, text), CallRouter::run, -1004);
            Check.due("the buffer", lengthAfterRun(text), text.length());
        }
        for (String text : new String[] {"", "l0;p8>2;", "l0;l1;q", "l0;p8>2;p012>1", "l0 "}) {
            CallRouter x = Scenes.withText(Scenes::ordinary, text).get();
            int answer = x.run();
            Check.dueTrue("an error", answer <= -100 && answer > -200);
            Check.due("the same error again", x.run(), answer);
            Reveal.unchanged(text, Scenes.withText(Scenes::ordinary, text), CallRouter::run, answer);
            Check.due("the buffer", lengthAfterRun(text), text.length());
        }
        Reveal.unchanged("a 41st route", Scenes.withText(Scenes::full, "l0;p1000>5;r0>0:@1x1"), CallRouter::run, -1002);
        Reveal.unchanged("a 31st number", Scenes.withText(Scenes::full, "l0;p1000>5;p9>0"), CallRouter::run, -1002);
        CallRouter y = new CallRouter();
        Check.due("not possible yet", Scenes.run(y, "l0"), -1000);
        y.addSwitch();
        Check.due("the text is still there", y.run(), 1);
    }

    private static int lengthAfterRun(String text) {
        CallRouter x = Scenes.withText(Scenes::ordinary, text).get();
        x.run();
        return x.clear();
    }
}
