import java.util.Random;
import java.util.TreeMap;

/** Random runs on the class and on the model; every answer must be the same. */
final class ModelTest {
    private static final int RUNS = 15000;
    /** The document promises nothing about an object after its 512th call. */
    private static final int MOST_CALLS = 512;
    /** A text is the dearest step, and the looks at the end of a run are dearer than that. */
    private static final int MOST_TYPED = 90;
    private static final int RESERVE = 280;
    private static final int[] EXTREMES = {Integer.MIN_VALUE, Integer.MIN_VALUE + 1, -1000000000, -10, -9, -3, -2, -1,
        0, 1, 7, 8, 9, 10, 29, 30, 39, 40, 62, 63, 64, 79, 80, 126, 127, 1000, 1001, 10080, 10081, 999999999,
        1000000000, Integer.MAX_VALUE - 1, Integer.MAX_VALUE};
    private static final int[] PREFIXES = {0, 0, 0, 1, 12, 123, 1234, 4, 44, 9, 99, 990, 9900, 9901, 9902, 9903,
        99012, 990112, 123456789, 990123456, 990212345, 999999999, 7};
    private static final int[] NUMBERS = {1, 12, 123, 1234, 12345, 4, 44, 441, 990, 9901, 99012, 990123, 123456789,
        990123456, 999999999, 7, 5};
    private static final String SIGNS = "rpl>:@x;0123456789 ~";

    private final Random random;
    private final CallRouter router = new CallRouter();
    private final Model model = new Model();
    private final TreeMap<String, Integer> kinds;
    private final int run;
    private final String name;
    private final int wildness;
    private final int mostLines;
    private final int numbers;
    private final int[] weights = new int[19];
    private int made = 0;

    private ModelTest(int run, TreeMap<String, Integer> kinds) {
        random = new Random(20261117L * 31 + run);
        this.run = run;
        this.kinds = kinds;
        name = "run " + run + ": ";
        wildness = new int[] {0, 2, 5, 20}[run % 4];
        mostLines = run % 3 == 0 ? 1 : run % 3 == 1 ? 3 : 20;
        numbers = run % 5 == 0 ? 1000000 : NUMBERS.length;
        for (int i = 0; i < weights.length; i++) {
            weights[i] = 1 + random.nextInt(4);
        }
        weights[3] += 10;
        weights[8] += 15;
        weights[9] += random.nextInt(15);
        weights[10] += random.nextInt(10);
    }

    public static void main(String[] args) {
        TreeMap<String, Integer> kinds = new TreeMap<>();
        for (int run = 0; run < RUNS && Check.wrongAnswers() == 0; run++) {
            new ModelTest(run, kinds).go();
        }
        System.out.println(kinds);
        for (String kind : new String[] {"addSwitch -3", "addRoute -3", "port -3", "port -9", "unport -9", "call -3",
            "call -11", "call -12", "call -13", "call -14", "call -15", "call -16", "call +", "end +", "end 0",
            "pass -2", "choice +", "choice -9", "way +", "way -9", "cheapest +", "cheapest -9", "run +", "run -1..",
            "run -10..", "undo +", "undo -9", "type -3", "long way"}) {
            Check.dueTrue("random runs have come by: " + kind, kinds.containsKey(kind));
        }
        Check.finish();
    }

    private int any(int[] from) {
        return from[random.nextInt(from.length)];
    }

    /** Mostly a number below the bound, sometimes anything. */
    private int below(int bound) {
        return random.nextInt(100) < wildness ? any(EXTREMES) : random.nextInt(Math.max(1, bound));
    }

    private int number() {
        if (random.nextInt(100) < wildness) {
            return any(EXTREMES);
        }
        return numbers == NUMBERS.length ? any(NUMBERS) : 1 + random.nextInt(numbers);
    }

    private int aSwitch() {
        return below(model.switches());
    }

    private void kind(String method, int answer) {
        String sign = answer > 0 ? "+" : String.valueOf(answer);
        if (method.equals("run") && answer < 0) {
            sign = answer <= -1000 ? "-10.." : "-1..";
        }
        kinds.merge(method + " " + sign, 1, Integer::sum);
    }

    private void same(String call, int got, int want) {
        made++;
        Check.due(name + call, got, want);
        kind(call.substring(0, call.indexOf('(')), want);
    }

    private void sameFingerprint() {
        made++;
        Check.due(name + "fingerprint()", router.fingerprint(), model.fingerprint());
    }

    private void go() {
        int size = 1 + random.nextInt(8);
        for (int i = 0; i < size; i++) {
            same("addSwitch()", router.addSwitch(), model.addSwitch());
        }
        for (int i = 0; i < 15 && run % 2 == 0; i++) {
            addRoute(aSwitch(), aSwitch());
        }
        if (run % 6 == 5) {
            makeMesh();
        }
        if (run % 10 == 3) {
            makeChain();
        }
        if (run % 7 == 6) {
            comeNearTheEndOfTime();
        }
        if (run % 8 == 7) {
            makeCrowd();
        }
        while (made + RESERVE <= MOST_CALLS && Check.wrongAnswers() == 0) {
            step();
            if (random.nextInt(3) == 0) {
                sameFingerprint();
            }
        }
        int undone = random.nextInt(7);
        for (int i = 0; i < undone; i++) {
            same("undo()", router.undo(), model.undo());
            sameFingerprint();
        }
        lookAtTheEnd();
        Check.dueTrue(name + "not more calls than are promised", made <= MOST_CALLS);
    }

    /** One kind of look a run, as all of them would be too many calls. */
    private void lookAtTheEnd() {
        sameFingerprint();
        switch (run % 3) {
            case 0:
                lookAtTrace();
                break;
            case 1:
                lookAtCalls();
                break;
            default:
                lookAtSwitches();
                break;
        }
    }

    /** Nearly all routes, ported numbers and calls that there can be. */
    private void makeCrowd() {
        int size = model.switches();
        for (int i = 0; i < 38; i++) {
            int s = random.nextInt(size);
            int t = random.nextInt(size);
            same("addRoute(" + s + ", 0, " + t + ", " + i + ", 9)", router.addRoute(s, 0, t, i, 9),
                    model.addRoute(s, 0, t, i, 9));
        }
        for (int i = 0; i < 29; i++) {
            same("port(" + (50 + i) + ", 0)", router.port(50 + i, 0), model.port(50 + i, 0));
        }
        for (int i = 0; i < 12; i++) {
            int s = random.nextInt(size);
            same("call(" + s + ", " + (500 + i) + ")", router.call(s, 500 + i), model.call(s, 500 + i));
        }
    }

    /** Many ways without an end: here calls come to their 31st attempt. */
    private void makeMesh() {
        int size = model.switches();
        for (int i = 0; i < 30; i++) {
            int s = i % size;
            int t = (s + 1 + random.nextInt(Math.max(1, size - 1))) % size;
            int cost = random.nextInt(6);
            int prefix = random.nextInt(10) == 0 ? 12 : 0;
            same("addRoute(" + s + ", " + prefix + ", " + t + ", " + cost + ", 5)",
                    router.addRoute(s, prefix, t, cost, 5), model.addRoute(s, prefix, t, cost, 5));
        }
    }

    /** Here calls have long ways. */
    private void makeChain() {
        int size = model.switches();
        for (int s = 0; s < size; s++) {
            int t = Math.min(s + 1, size - 1);
            same("addRoute(" + s + ", 0, " + t + ", 0, 5)", router.addRoute(s, 0, t, 0, 5),
                    model.addRoute(s, 0, t, 0, 5));
        }
        same("setLimit(6)", router.setLimit(6), model.setLimit(6));
        for (int s = 0; s < size; s++) {
            same("call(" + s + ", " + (500 + s) + ")", router.call(s, 500 + s), model.call(s, 500 + s));
        }
    }

    private void comeNearTheEndOfTime() {
        for (int i = 0; i < 99; i++) {
            same("pass(10080)", router.pass(10080), model.pass(10080));
        }
    }

    private int chosen() {
        int sum = 0;
        for (int weight : weights) {
            sum += weight;
        }
        int at = random.nextInt(sum);
        int i = 0;
        while (at >= weights[i]) {
            at -= weights[i];
            i++;
        }
        return i;
    }

    private void step() {
        int s = aSwitch();
        int t = aSwitch();
        int n = number();
        switch (chosen()) {
            case 0:
                if (random.nextInt(8) == 0) {
                    same("addSwitch()", router.addSwitch(), model.addSwitch());
                }
                break;
            case 1:
                boolean on = random.nextBoolean();
                same("setLookup(" + s + ", " + on + ")", router.setLookup(s, on), model.setLookup(s, on));
                break;
            case 2:
                int codes = random.nextInt(4) == 0 ? below(70) : random.nextBoolean() ? 62 : 2 * random.nextInt(32);
                same("setCodes(" + s + ", " + codes + ")", router.setCodes(s, codes), model.setCodes(s, codes));
                break;
            case 3:
                addRoute(s, t);
                break;
            case 4:
                int limit = random.nextInt(3) == 0 ? below(8) : 4 + random.nextInt(3);
                same("setLimit(" + limit + ")", router.setLimit(limit), model.setLimit(limit));
                break;
            case 5:
                int route = below(model.routes());
                int band = below(3);
                int cost = below(6);
                same("setCost(" + route + ", " + band + ", " + cost + ")", router.setCost(route, band, cost),
                        model.setCost(route, band, cost));
                break;
            case 6:
                same("port(" + n + ", " + s + ")", router.port(n, s), model.port(n, s));
                break;
            case 7:
                if (random.nextInt(4) == 0) {
                    same("unport(" + n + ")", router.unport(n), model.unport(n));
                }
                break;
            case 8:
                same("call(" + s + ", " + n + ")", router.call(s, n), model.call(s, n));
                if (random.nextInt(4) == 0) {
                    lookAtTrace();
                }
                break;
            case 9:
                int place = below(10);
                same("end(" + place + ")", router.end(place), model.end(place));
                break;
            case 10:
                int minutes = random.nextInt(3) == 0 ? 10080 : 1 + below(3000);
                same("pass(" + minutes + ")", router.pass(minutes), model.pass(minutes));
                break;
            case 11:
                int i = below(5);
                same("choice(" + s + ", " + n + ", " + i + ")", router.choice(s, n, i), model.choice(s, n, i));
                break;
            case 12:
                same("cheapest(" + s + ", " + n + ")", router.cheapest(s, n), model.cheapest(s, n));
                break;
            case 13:
            case 14:
                if (random.nextInt(3) == 0) {
                    text();
                }
                break;
            case 15:
                if (random.nextInt(4) == 0) {
                    same("undo()", router.undo(), model.undo());
                }
                break;
            case 16:
                int w = below(10);
                int k = below(7);
                same("way(" + w + ", " + k + ")", router.way(w, k), model.way(w, k));
                same("called(" + w + ")", router.called(w), model.called(w));
                break;
            case 17:
                int r = below(model.routes());
                int what = below(8);
                same("route(" + r + ", " + what + ")", router.route(r, what), model.route(r, what));
                break;
            default:
                same("owes(" + s + ", " + t + ")", router.owes(s, t), model.owes(s, t));
                int a = below(31);
                int b = below(2);
                same("attempt(" + a + ", " + b + ")", router.attempt(a, b), model.attempt(a, b));
                break;
        }
    }

    private void addRoute(int s, int t) {
        int prefix = random.nextInt(100) < wildness ? any(EXTREMES) : any(PREFIXES);
        int cost = random.nextInt(5) == 0 ? below(1001) : below(6);
        int lines = random.nextInt(100) < wildness ? any(EXTREMES) : 1 + random.nextInt(mostLines);
        same("addRoute(" + s + ", " + prefix + ", " + t + ", " + cost + ", " + lines + ")",
                router.addRoute(s, prefix, t, cost, lines), model.addRoute(s, prefix, t, cost, lines));
    }

    private String command() {
        String s = String.valueOf(random.nextInt(random.nextInt(5) == 0 ? 10 : model.switches() + 1));
        String t = String.valueOf(random.nextInt(Math.max(1, model.switches())));
        switch (random.nextInt(3)) {
            case 0:
                int prefix = any(PREFIXES);
                String cost = random.nextInt(3) == 0 ? "00" + random.nextInt(100) : "" + random.nextInt(1002);
                int lines = random.nextInt(10) == 0 ? random.nextInt(30) : 1 + random.nextInt(20);
                return "r" + s + ">" + t + ":" + (prefix == 0 ? "" : "" + prefix) + "@" + cost + "x" + lines;
            case 1:
                return "p" + any(NUMBERS) + ">" + s;
            default:
                return "l" + t;
        }
    }

    private void text() {
        if (random.nextInt(3) != 0) {
            same("clear()", router.clear(), model.clear());
        }
        StringBuilder text = new StringBuilder(command());
        int more = random.nextInt(7);
        for (int i = 0; i < more; i++) {
            text.append(';').append(command());
        }
        if (random.nextInt(3) == 0) {
            int at = random.nextInt(text.length());
            char sign = SIGNS.charAt(random.nextInt(SIGNS.length()));
            switch (random.nextInt(4)) {
                case 0:
                    text.setCharAt(at, sign);
                    break;
                case 1:
                    text.insert(at, sign);
                    break;
                case 2:
                    text.deleteCharAt(at);
                    break;
                default:
                    text.setLength(at);
                    break;
            }
        }
        for (int i = 0; i < text.length() && i < MOST_TYPED; i++) {
            int c = random.nextInt(1000) < wildness ? any(EXTREMES) : text.charAt(i);
            same("type(" + c + ")", router.type(c), model.type(c));
        }
        same("run() of \"" + model.text() + "\"", router.run(), model.run());
    }

    private void lookAtTrace() {
        same("attempts()", router.attempts(), model.attempts());
        for (int i = 0; i <= model.attempts(); i++) {
            same("attempt(" + i + ", 0)", router.attempt(i, 0), model.attempt(i, 0));
            same("attempt(" + i + ", 1)", router.attempt(i, 1), model.attempt(i, 1));
        }
    }

    private void lookAtCalls() {
        same("time()", router.time(), model.time());
        same("band()", router.band(), model.band());
        same("calls()", router.calls(), model.calls());
        for (int place = -1; place <= 10; place++) {
            same("called(" + place + ")", router.called(place), model.called(place));
            for (int i = -1; i < 8; i++) {
                same("way(" + place + ", " + i + ")", router.way(place, i), model.way(place, i));
            }
            if (model.way(place, 5) >= 0) {
                kinds.merge("long way", 1, Integer::sum);
            }
        }
    }

    private void lookAtSwitches() {
        for (int s = -1; s <= model.switches(); s++) {
            int n = number();
            same("cheapest(" + s + ", " + n + ")", router.cheapest(s, n), model.cheapest(s, n));
            for (int i = 0; i < 4; i++) {
                same("choice(" + s + ", " + n + ", " + i + ")", router.choice(s, n, i), model.choice(s, n, i));
            }
            for (int t = -1; t <= model.switches(); t++) {
                same("owes(" + s + ", " + t + ")", router.owes(s, t), model.owes(s, t));
            }
        }
    }
}
