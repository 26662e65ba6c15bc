import java.util.ArrayDeque;
import java.util.ArrayList;
import java.util.Arrays;
import java.util.Comparator;
import java.util.Deque;
import java.util.HashSet;
import java.util.List;
import java.util.Map;
import java.util.Set;
import java.util.TreeMap;
import java.util.regex.Matcher;
import java.util.regex.Pattern;

/**
 * The document once more, written in another way than CallRouter, so that random runs can compare the
 * two: digits are texts, lines are occupied while a call looks for its way, states are deep copies,
 * texts are read by patterns, and the cheapest way is found by following every way.
 */
final class Model {
    private static final class Link {
        int from;
        String prefix;
        int to;
        int[] cost;
        int lines;
        int used;

        Link copy() {
            Link c = new Link();
            c.from = from;
            c.prefix = prefix;
            c.to = to;
            c.cost = cost.clone();
            c.lines = lines;
            c.used = used;
            return c;
        }
    }

    private static final class Talk {
        int number;
        int since;
        List<Integer> way;
    }

    private static final class World {
        List<Boolean> lookup = new ArrayList<>();
        List<Integer> codes = new ArrayList<>();
        List<Link> links = new ArrayList<>();
        TreeMap<Integer, Integer> ported = new TreeMap<>();
        TreeMap<Integer, Talk> talks = new TreeMap<>();
        TreeMap<String, Integer> debts = new TreeMap<>();
        int limit = 5;
        int time = 0;

        World copy() {
            World c = new World();
            c.lookup = new ArrayList<>(lookup);
            c.codes = new ArrayList<>(codes);
            for (Link link : links) {
                c.links.add(link.copy());
            }
            c.ported = new TreeMap<>(ported);
            c.talks = new TreeMap<>(talks);
            c.debts = new TreeMap<>(debts);
            c.limit = limit;
            c.time = time;
            return c;
        }

        boolean hasSwitch(int s) {
            return 0 <= s && s < lookup.size();
        }
    }

    private static final class TooMany extends RuntimeException {
        private static final long serialVersionUID = 1L;
    }

    private static final Pattern COMMAND = Pattern.compile(
            "r([0-9])>([0-9]):((?:[1-9][0-9]{0,8})?)@([0-9]{1,4})x([0-9]{1,4})|p([1-9][0-9]{0,8})>([0-9])|l([0-9])");
    private static final Pattern TEXT = Pattern.compile(
            "(?:" + COMMAND.pattern() + ")(?:;(?:" + COMMAND.pattern() + "))*");

    private World w = new World();
    private Deque<World> past = new ArrayDeque<>();
    private List<int[]> trace = new ArrayList<>();
    private String buffer = "";

    int switches() {
        return w.lookup.size();
    }

    int routes() {
        return w.links.size();
    }

    String text() {
        return buffer;
    }

    private void act(World previous) {
        past.addLast(previous);
        if (past.size() > 5) {
            past.removeFirst();
        }
    }

    private static boolean number(int n) {
        return 1 <= n && n <= 999999999;
    }

    int addSwitch() {
        if (w.lookup.size() == 8) {
            return -3;
        }
        act(w.copy());
        w.lookup.add(false);
        w.codes.add(2 + 4 + 8 + 16);
        return w.lookup.size() - 1;
    }

    int setLookup(int s, boolean on) {
        if (!w.hasSwitch(s)) {
            return -1;
        }
        act(w.copy());
        return w.lookup.set(s, on) ? 1 : 0;
    }

    int setCodes(int s, int codes) {
        if (!w.hasSwitch(s) || codes < 0 || codes > 62 || codes % 2 != 0) {
            return -1;
        }
        act(w.copy());
        return w.codes.set(s, codes);
    }

    int setLimit(int limit) {
        if (limit < 1 || limit > 6) {
            return -1;
        }
        act(w.copy());
        int old = w.limit;
        w.limit = limit;
        return old;
    }

    int addRoute(int s, int prefix, int next, int cost, int lines) {
        if (!w.hasSwitch(s) || !w.hasSwitch(next) || prefix < 0 || prefix > 999999999
                || cost < 0 || cost > 1000 || lines < 1 || lines > 20) {
            return -1;
        }
        if (w.links.size() == 40) {
            return -3;
        }
        act(w.copy());
        Link link = new Link();
        link.from = s;
        link.prefix = prefix == 0 ? "" : String.valueOf(prefix);
        link.to = next;
        link.cost = new int[] {cost, cost, cost};
        link.lines = lines;
        w.links.add(link);
        return w.links.size() - 1;
    }

    int setCost(int route, int band, int cost) {
        if (route < 0 || route >= w.links.size() || band < 0 || band > 2 || cost < 0 || cost > 1000) {
            return -1;
        }
        act(w.copy());
        int old = w.links.get(route).cost[band];
        w.links.get(route).cost[band] = cost;
        return old;
    }

    int port(int number, int s) {
        if (!w.hasSwitch(s) || !number(number)) {
            return -1;
        }
        if (w.ported.size() == 30 && !w.ported.containsKey(number)) {
            return -3;
        }
        act(w.copy());
        Integer old = w.ported.put(number, s);
        return old == null ? -9 : old;
    }

    int unport(int number) {
        if (!number(number)) {
            return -1;
        }
        if (!w.ported.containsKey(number)) {
            return -9;
        }
        act(w.copy());
        return w.ported.remove(number);
    }

    private boolean busy(int number) {
        return w.talks.values().stream().anyMatch(t -> t.number == number);
    }

    private List<Integer> taken(int s, String digits) {
        List<Integer> found = new ArrayList<>();
        for (int length = 9; length >= 0 && found.isEmpty(); length--) {
            for (int r = 0; r < w.links.size(); r++) {
                Link link = w.links.get(r);
                if (link.from == s && link.prefix.length() == length && digits.startsWith(link.prefix)) {
                    found.add(r);
                }
            }
        }
        int band = band();
        found.sort(Comparator.comparingInt((Integer r) -> w.links.get(r).cost[band]).thenComparingInt(r -> r));
        return found;
    }

    private int arrive(int s, int number, String digits, boolean marked, List<Integer> been, List<Integer> way) {
        if (been.contains(s)) {
            return 3;
        }
        if (been.size() == w.limit) {
            return 4;
        }
        if (!marked && w.lookup.get(s) && w.ported.containsKey(number)) {
            marked = true;
            digits = "990" + w.ported.get(number) + number;
        }
        if (marked && digits.charAt(3) - '0' == s) {
            return busy(number) ? 5 : 0;
        }
        List<Integer> routes = taken(s, digits);
        if (routes.isEmpty()) {
            return 1;
        }
        List<Integer> beenHere = new ArrayList<>(been);
        beenHere.add(s);
        int code = 0;
        for (int r : routes) {
            code = follow(r, number, digits, marked, beenHere, way);
            if (code == 0 || !List.of(1, 2, 3, 4, 5).contains(code) || (w.codes.get(s) & (1 << code)) == 0) {
                return code;
            }
        }
        return code;
    }

    private int follow(int r, int number, String digits, boolean marked, List<Integer> been, List<Integer> way) {
        if (trace.size() == 30) {
            throw new TooMany();
        }
        int[] entry = {r, 6};
        trace.add(entry);
        Link link = w.links.get(r);
        way.add(r);
        int code;
        if (link.from == link.to) {
            code = busy(number) ? 5 : 0;
        } else if (link.used == link.lines) {
            code = 2;
        } else {
            link.used++;
            code = arrive(link.to, number, digits, marked, been, way);
            if (code != 0) {
                link.used--;
            }
        }
        if (code != 0) {
            way.remove(way.size() - 1);
        }
        entry[1] = code;
        return code;
    }

    int call(int s, int number) {
        if (!w.hasSwitch(s) || !number(number)) {
            return -1;
        }
        if (w.talks.size() == 10) {
            return -3;
        }
        World previous = w.copy();
        trace = new ArrayList<>();
        List<Integer> way = new ArrayList<>();
        int code;
        try {
            code = arrive(s, number, String.valueOf(number), false, List.of(), way);
        } catch (TooMany e) {
            code = 6;
        }
        if (code != 0) {
            w = previous;
            return -10 - code;
        }
        act(previous);
        int place = 0;
        while (w.talks.containsKey(place)) {
            place++;
        }
        Talk talk = new Talk();
        talk.number = number;
        talk.since = w.time;
        talk.way = way;
        w.talks.put(place, talk);
        return place;
    }

    int end(int place) {
        if (!w.talks.containsKey(place)) {
            return -1;
        }
        act(w.copy());
        Talk talk = w.talks.remove(place);
        int minutes = w.time == talk.since ? 1 : w.time - talk.since;
        int sum = 0;
        for (int r : talk.way) {
            Link link = w.links.get(r);
            if (link.from != link.to) {
                link.used--;
                int owed = link.cost[bandAt(talk.since)] * minutes;
                w.debts.merge(link.from + ">" + link.to, owed, (a, b) -> a + b);
                sum += owed;
            }
        }
        return sum;
    }

    int pass(int minutes) {
        if (minutes < 1 || minutes > 10080) {
            return -1;
        }
        if (w.time + minutes > 1000000) {
            return -2;
        }
        act(w.copy());
        w.time += minutes;
        return w.time;
    }

    int time() {
        return w.time;
    }

    private static int bandAt(int time) {
        int day = time / 1440 % 7;
        int hourless = time % 1440;
        if (day == 5 || day == 6) {
            return 2;
        }
        return hourless >= 480 && hourless < 1200 ? 0 : 1;
    }

    int band() {
        return bandAt(w.time);
    }

    int route(int route, int what) {
        if (route < 0 || route >= w.links.size() || what < 0 || what > 7) {
            return -1;
        }
        Link link = w.links.get(route);
        int prefix = link.prefix.isEmpty() ? 0 : Integer.parseInt(link.prefix);
        return new int[] {link.from, prefix, link.to, link.cost[0], link.cost[1], link.cost[2], link.lines,
            link.used}[what];
    }

    int choice(int s, int number, int i) {
        if (!w.hasSwitch(s) || !number(number) || i < 0) {
            return -1;
        }
        List<Integer> routes = taken(s, String.valueOf(number));
        return i < routes.size() ? routes.get(i) : -9;
    }

    int calls() {
        return w.talks.size();
    }

    int way(int place, int i) {
        if (!w.talks.containsKey(place) || i < 0) {
            return -1;
        }
        List<Integer> way = w.talks.get(place).way;
        return i < way.size() ? way.get(i) : -9;
    }

    int called(int place) {
        return w.talks.containsKey(place) ? w.talks.get(place).number : -1;
    }

    int owes(int s, int t) {
        return w.hasSwitch(s) && w.hasSwitch(t) ? w.debts.getOrDefault(s + ">" + t, 0) : -1;
    }

    int attempts() {
        return trace.size();
    }

    int attempt(int i, int what) {
        return i < 0 || i >= trace.size() || what < 0 || what > 1 ? -1 : trace.get(i)[what];
    }

    int cheapest(int s, int number) {
        if (!w.hasSwitch(s) || !number(number)) {
            return -1;
        }
        Map<String, List<Integer>> memory = new TreeMap<>();
        int least = follow(s, number, String.valueOf(number), false, new HashSet<>(), memory);
        return least == Integer.MAX_VALUE ? -9 : least;
    }

    private int follow(int s, int number, String digits, boolean marked, Set<Integer> been,
            Map<String, List<Integer>> memory) {
        if (been.contains(s) || been.size() == w.limit) {
            return Integer.MAX_VALUE;
        }
        if (!marked && w.lookup.get(s) && w.ported.containsKey(number)) {
            marked = true;
            digits = "990" + w.ported.get(number) + number;
        }
        if (marked && digits.charAt(3) - '0' == s) {
            return 0;
        }
        String key = s + "," + digits + marked;
        if (!memory.containsKey(key)) {
            memory.put(key, taken(s, digits));
        }
        int least = Integer.MAX_VALUE;
        been.add(s);
        for (int r : memory.get(key)) {
            Link link = w.links.get(r);
            if (link.to == s) {
                least = 0;
            } else {
                int rest = follow(link.to, number, digits, marked, been, memory);
                if (rest != Integer.MAX_VALUE) {
                    least = Math.min(least, rest + link.cost[band()]);
                }
            }
        }
        been.remove(s);
        return least;
    }

    int type(int c) {
        if (c < 32 || c > 126) {
            return -1;
        }
        if (buffer.length() == 80) {
            return -3;
        }
        buffer += (char) c;
        return buffer.length();
    }

    int clear() {
        int size = buffer.length();
        buffer = "";
        return size;
    }

    /** The longest beginning that some text of the language begins with has the error place behind it. */
    private static int errorPlace(String text) {
        for (int n = 0; n < text.length(); n++) {
            Matcher m = TEXT.matcher(text.substring(0, n + 1));
            if (!m.matches() && !m.hitEnd()) {
                return n;
            }
        }
        return TEXT.matcher(text).matches() ? -1 : text.length();
    }

    int run() {
        int error = errorPlace(buffer);
        if (error >= 0) {
            return -100 - error;
        }
        World previous = w.copy();
        List<World> oldPast = new ArrayList<>(past);
        String[] commands = buffer.split(";");
        for (int i = 0; i < commands.length; i++) {
            if (!carryOut(commands[i])) {
                w = previous;
                past = new ArrayDeque<>(oldPast);
                return -1000 - i;
            }
        }
        past = new ArrayDeque<>(oldPast);
        act(previous);
        buffer = "";
        return commands.length;
    }

    private boolean carryOut(String command) {
        Matcher m = COMMAND.matcher(command);
        if (!m.matches()) {
            throw new IllegalStateException(command);
        }
        int[] n = new int[9];
        Arrays.setAll(n, i -> i == 0 || m.group(i) == null || m.group(i).isEmpty() ? 0 : Integer.parseInt(m.group(i)));
        switch (command.charAt(0)) {
            case 'r':
                return addRoute(n[1], n[3], n[2], n[4], n[5]) >= 0;
            case 'p':
                int answer = port(n[6], n[7]);
                return answer != -1 && answer != -3;
            default:
                return setLookup(n[8], true) >= 0;
        }
    }

    int undo() {
        if (past.isEmpty()) {
            return -9;
        }
        w = past.removeLast();
        return past.size();
    }

    long fingerprint() {
        List<Long> numbers = new ArrayList<>();
        numbers.add((long) w.lookup.size());
        numbers.add((long) w.links.size());
        for (int r = 0; r < w.links.size(); r++) {
            for (int what = 0; what < 8; what++) {
                numbers.add((long) route(r, what));
            }
        }
        numbers.addAll(List.of((long) w.ported.size(), (long) w.limit, (long) w.time, (long) w.talks.size()));
        for (int s = 0; s < w.lookup.size(); s++) {
            for (int t = 0; t < w.lookup.size(); t++) {
                numbers.add((long) owes(s, t));
            }
        }
        long sum = 79;
        for (long n : numbers) {
            sum = 31 * sum + n;
        }
        return sum;
    }
}
