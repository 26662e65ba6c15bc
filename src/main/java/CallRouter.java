/**
 * Call routing among telephone switches, as ../shared/DOC.md promises it.
 *
 * All rows are made by the constructor and used again: no later call makes an object.
 */
public final class CallRouter {
    public static final int BAD = -1;
    public static final int STATE = -2;
    public static final int FULL = -3;
    public static final int NONE = -9;

    private static final int MAX_SWITCHES = 8;
    private static final int MAX_ROUTES = 40;
    private static final int MAX_PORTS = 30;
    private static final int MAX_CALLS = 10;
    private static final int MAX_LIMIT = 6;
    private static final int MAX_ATTEMPTS = 30;
    private static final int MAX_STATES = 5;
    private static final int MAX_TEXT = 80;
    /** The shortest command has two characters, so 80 of them hold 27 with ";" between. */
    private static final int MAX_COMMANDS = 27;
    private static final int MAX_NUMBER = 999999999;
    private static final int MAX_COST = 1000;
    private static final int MAX_LINES = 20;
    private static final int MAX_PASS = 10080;
    private static final int MAX_TIME = 1000000;
    private static final int MAX_CODES = 62;

    private static final int BANDS = 3;
    private static final int FIRST_LIMIT = 5;
    private static final int FIRST_CODES = 30;
    private static final int MINUTES_OF_DAY = 1440;
    private static final int MINUTES_OF_WEEK = 10080;

    /** A marked number has four digits in front of at most nine. */
    private static final int MAX_DIGITS = 13;
    private static final int NUMBER_DIGITS = 9;
    private static final int COUNT_DIGITS = 4;
    private static final long MARK = 9900L;

    private static final int CONNECTED = 0;
    private static final int NO_ROUTE = 1;
    private static final int NO_LINES = 2;
    private static final int LOOP = 3;
    private static final int TOO_MANY_HOPS = 4;
    private static final int BUSY = 5;
    private static final int TOO_MANY_ATTEMPTS = 6;

    private static final int ALLOWED = 0;
    private static final int CODE_BASE = -10;
    private static final int ERROR_BASE = -100;
    private static final int COMMAND_BASE = -1000;

    private final Network now = new Network();
    private final Network before = new Network();
    private final History history = new History();
    private final Text text = new Text();
    private final Journey journey = new Journey();
    private final CheapestWay cheapestWay = new CheapestWay();

    public CallRouter() {
    }

    // ---- switches, routes, ported numbers

    public int addSwitch() {
        if (now.switchCount() >= MAX_SWITCHES) {
            return FULL;
        }
        history.push(now);
        return now.putSwitch();
    }

    public int setLookup(int s, boolean on) {
        if (!now.hasSwitch(s)) {
            return BAD;
        }
        history.push(now);
        boolean previous = now.looksUp(s);
        now.changeLookup(s, on);
        return previous ? 1 : 0;
    }

    public int setCodes(int s, int codes) {
        if (!now.hasSwitch(s) || !inRange(codes, 0, MAX_CODES) || (codes & 1) != 0) {
            return BAD;
        }
        history.push(now);
        return now.changeCodes(s, codes);
    }

    public int setLimit(int limit) {
        if (!inRange(limit, 1, MAX_LIMIT)) {
            return BAD;
        }
        history.push(now);
        return now.changeLimit(limit);
    }

    public int addRoute(int s, int prefix, int next, int cost, int lines) {
        int refusal = now.routeRefusal(s, prefix, next, cost, lines);
        if (refusal != ALLOWED) {
            return refusal;
        }
        history.push(now);
        return now.routeRows().put(s, prefix, next, cost, lines);
    }

    public int setCost(int route, int band, int cost) {
        if (!now.routeRows().has(route) || !inRange(band, 0, BANDS - 1) || !inRange(cost, 0, MAX_COST)) {
            return BAD;
        }
        history.push(now);
        return now.routeRows().changeCost(route, band, cost);
    }

    public int port(int number, int s) {
        int refusal = now.portRefusal(number, s);
        if (refusal != ALLOWED) {
            return refusal;
        }
        history.push(now);
        return now.portRows().put(number, s);
    }

    public int unport(int number) {
        if (!isNumber(number)) {
            return BAD;
        }
        if (now.portRows().switchOf(number) == NONE) {
            return NONE;
        }
        history.push(now);
        return now.portRows().remove(number);
    }

    // ---- calls

    public int call(int s, int number) {
        if (!now.hasSwitch(s) || !isNumber(number)) {
            return BAD;
        }
        int place = now.callRows().freePlace();
        if (place == NONE) {
            return FULL;
        }
        int code = journey.start(now, s, number);
        if (code != CONNECTED) {
            return CODE_BASE - code;
        }
        history.push(now);
        now.connect(place, journey);
        return place;
    }

    public int end(int place) {
        if (!now.callRows().has(place)) {
            return BAD;
        }
        history.push(now);
        return now.settle(place);
    }

    public int pass(int minutes) {
        if (!inRange(minutes, 1, MAX_PASS)) {
            return BAD;
        }
        if (now.minutes() + minutes > MAX_TIME) {
            return STATE;
        }
        history.push(now);
        return now.letPass(minutes);
    }

    // ---- asking

    public int time() {
        return now.minutes();
    }

    public int band() {
        return bandOf(now.minutes());
    }

    public int route(int route, int what) {
        return now.routeRows().numberOf(route, what);
    }

    public int choice(int s, int number, int i) {
        if (!now.hasSwitch(s) || !isNumber(number) || i < 0) {
            return BAD;
        }
        Routes routes = now.routeRows();
        int band = bandOf(now.minutes());
        int prefix = routes.longestPrefix(s, digitsOf(number, NONE));
        int found = routes.choiceAfter(NONE, s, prefix, band);
        for (int k = 0; k < i && k < MAX_ROUTES && found != NONE; k++) {
            found = routes.choiceAfter(found, s, prefix, band);
        }
        return found;
    }

    public int calls() {
        return now.callRows().size();
    }

    public int way(int place, int i) {
        if (!now.callRows().has(place) || i < 0) {
            return BAD;
        }
        return now.callRows().step(place, i);
    }

    public int called(int place) {
        return now.callRows().has(place) ? now.callRows().numberAt(place) : BAD;
    }

    public int owes(int s, int t) {
        return now.hasSwitch(s) && now.hasSwitch(t) ? now.debt(s, t) : BAD;
    }

    public int attempts() {
        return journey.trace().size();
    }

    public int attempt(int i, int what) {
        Trace trace = journey.trace();
        if (!trace.has(i) || !inRange(what, 0, 1)) {
            return BAD;
        }
        return what == 0 ? trace.routeAt(i) : trace.codeAt(i);
    }

    public int cheapest(int s, int number) {
        if (!now.hasSwitch(s) || !isNumber(number)) {
            return BAD;
        }
        return cheapestWay.search(now, s, number);
    }

    // ---- texts

    public int type(int c) {
        if (!inRange(c, 32, 126)) {
            return BAD;
        }
        return text.append((char) c) ? text.size() : FULL;
    }

    public int clear() {
        int size = text.size();
        text.empty();
        return size;
    }

    public int run() {
        if (!text.parse()) {
            return ERROR_BASE - text.errorPlace();
        }
        before.copyFrom(now);
        int commands = text.commandCount();
        for (int i = 0; i < commands; i++) {
            if (!text.carryOut(i, now)) {
                now.copyFrom(before);
                return COMMAND_BASE - i;
            }
        }
        history.push(before);
        text.empty();
        return commands;
    }

    // ---- history

    public int undo() {
        return history.pop(now) ? history.size() : NONE;
    }

    public long fingerprint() {
        long sum = now.routeRows().fold(31L * (31L * 79L + now.switchCount()) + now.routeRows().size());
        sum = 31L * sum + now.portRows().size();
        sum = 31L * sum + now.hopLimit();
        sum = 31L * sum + now.minutes();
        sum = 31L * sum + now.callRows().size();
        return now.foldDebts(sum);
    }

    // ---- what all classes use

    private static boolean inRange(int value, int least, int most) {
        return value >= least && value <= most;
    }

    private static boolean isNumber(int number) {
        return inRange(number, 1, MAX_NUMBER);
    }

    private static int bandOf(int minutes) {
        int ofWeek = Math.floorMod(minutes, MINUTES_OF_WEEK);
        if (ofWeek >= 5 * MINUTES_OF_DAY) {
            return 2;
        }
        return inRange(ofWeek % MINUTES_OF_DAY, 480, 1199) ? 0 : 1;
    }

    /** The digits with which a number goes on its way, read as one number; a mark is NONE or a switch. */
    private static long digitsOf(int number, int mark) {
        if (mark == NONE) {
            return number;
        }
        long shift = 1;
        for (int i = 0; i < NUMBER_DIGITS && shift <= number; i++) {
            shift *= 10;
        }
        return (MARK + mark) * shift + number;
    }

    private static boolean beginsWith(long digits, int prefix) {
        long rest = digits;
        for (int i = 0; i < MAX_DIGITS && rest > prefix; i++) {
            rest /= 10;
        }
        return rest == prefix;
    }

    /** All that the history keeps. */
    private static final class Network {
        private final int[] codeSets = new int[MAX_SWITCHES];
        private final int[] debts = new int[MAX_SWITCHES * MAX_SWITCHES];
        private final Routes routeRows = new Routes();
        private final Ports portRows = new Ports();
        private final Calls callRows = new Calls();
        private int switches = 0;
        /** The switches that look numbers up, bit s for switch s. */
        private int lookups = 0;
        private int hops = FIRST_LIMIT;
        private int clock = 0;

        void copyFrom(Network other) {
            System.arraycopy(other.codeSets, 0, codeSets, 0, MAX_SWITCHES);
            System.arraycopy(other.debts, 0, debts, 0, MAX_SWITCHES * MAX_SWITCHES);
            routeRows.copyFrom(other.routeRows);
            portRows.copyFrom(other.portRows);
            callRows.copyFrom(other.callRows);
            switches = other.switches;
            lookups = other.lookups;
            hops = other.hops;
            clock = other.clock;
        }

        Routes routeRows() {
            return routeRows;
        }

        Ports portRows() {
            return portRows;
        }

        Calls callRows() {
            return callRows;
        }

        int switchCount() {
            return switches;
        }

        int hopLimit() {
            return hops;
        }

        int minutes() {
            return clock;
        }

        boolean hasSwitch(int s) {
            return s >= 0 && s < switches && s < MAX_SWITCHES;
        }

        int putSwitch() {
            int s = switches;
            if (s >= MAX_SWITCHES) {
                return FULL;
            }
            codeSets[s] = FIRST_CODES;
            switches = s + 1;
            return s;
        }

        boolean looksUp(int s) {
            return hasSwitch(s) && (lookups >> s & 1) != 0;
        }

        void changeLookup(int s, boolean on) {
            if (hasSwitch(s)) {
                lookups = on ? lookups | 1 << s : lookups & ~(1 << s);
            }
        }

        int changeCodes(int s, int codes) {
            if (!hasSwitch(s)) {
                return BAD;
            }
            int previous = codeSets[s];
            codeSets[s] = codes;
            return previous;
        }

        /** The codes 0 and 6 are in no set, so a call with one of them never goes on. */
        boolean goesOn(int s, int code) {
            return hasSwitch(s) && (codeSets[s] >> code & 1) != 0;
        }

        int changeLimit(int limit) {
            int previous = hops;
            hops = limit;
            return previous;
        }

        int letPass(int passed) {
            clock += passed;
            return clock;
        }

        int routeRefusal(int s, int prefix, int next, int cost, int lines) {
            if (!hasSwitch(s) || !inRange(prefix, 0, MAX_NUMBER) || !hasSwitch(next)
                    || !inRange(cost, 0, MAX_COST) || !inRange(lines, 1, MAX_LINES)) {
                return BAD;
            }
            return routeRows.size() >= MAX_ROUTES ? FULL : ALLOWED;
        }

        int portRefusal(int number, int s) {
            if (!hasSwitch(s) || !isNumber(number)) {
                return BAD;
            }
            boolean added = portRows.switchOf(number) == NONE;
            return added && portRows.size() >= MAX_PORTS ? FULL : ALLOWED;
        }

        /** The mark that a number has from switch s on. */
        int markAt(int s, int number, int mark) {
            return mark == NONE && looksUp(s) ? portRows.switchOf(number) : mark;
        }

        void connect(int place, Journey journey) {
            callRows.put(place, journey.number(), clock);
            for (int i = 0; i < MAX_LIMIT && i < journey.length(); i++) {
                int route = journey.step(i);
                callRows.addStep(place, route);
                routeRows.occupy(route);
            }
        }

        int settle(int place) {
            int start = callRows.startOf(place);
            int lasted = Math.max(1, clock - start);
            int sum = 0;
            for (int i = 0; i < MAX_LIMIT && i < callRows.length(place); i++) {
                sum += settleStep(callRows.step(place, i), bandOf(start), lasted);
            }
            callRows.remove(place);
            return sum;
        }

        private int settleStep(int route, int band, int lasted) {
            if (routeRows.serves(route)) {
                return 0;
            }
            int owed = routeRows.costOf(route, band) * lasted;
            routeRows.release(route);
            addDebt(routeRows.switchOf(route), routeRows.nextOf(route), owed);
            return owed;
        }

        private void addDebt(int s, int t, int owed) {
            if (hasSwitch(s) && hasSwitch(t)) {
                debts[s * MAX_SWITCHES + t] += owed;
            }
        }

        int debt(int s, int t) {
            return hasSwitch(s) && hasSwitch(t) ? debts[s * MAX_SWITCHES + t] : 0;
        }

        long foldDebts(long start) {
            long sum = start;
            for (int s = 0; s < switches; s++) {
                for (int t = 0; t < switches; t++) {
                    sum = 31L * sum + debt(s, t);
                }
            }
            return sum;
        }
    }

    /** The routes of all switches. */
    private static final class Routes {
        private static final int WHATS = 8;
        private static final int FIRST_COST = 3;

        private final int[] owners = new int[MAX_ROUTES];
        private final int[] prefixes = new int[MAX_ROUTES];
        private final int[] nexts = new int[MAX_ROUTES];
        private final int[] costs = new int[MAX_ROUTES * BANDS];
        private final int[] lineCounts = new int[MAX_ROUTES];
        private final int[] occupied = new int[MAX_ROUTES];
        private int count = 0;

        void copyFrom(Routes other) {
            System.arraycopy(other.owners, 0, owners, 0, MAX_ROUTES);
            System.arraycopy(other.prefixes, 0, prefixes, 0, MAX_ROUTES);
            System.arraycopy(other.nexts, 0, nexts, 0, MAX_ROUTES);
            System.arraycopy(other.costs, 0, costs, 0, MAX_ROUTES * BANDS);
            System.arraycopy(other.lineCounts, 0, lineCounts, 0, MAX_ROUTES);
            System.arraycopy(other.occupied, 0, occupied, 0, MAX_ROUTES);
            count = other.count;
        }

        int size() {
            return count;
        }

        boolean has(int route) {
            return route >= 0 && route < count && route < MAX_ROUTES;
        }

        int put(int s, int prefix, int next, int cost, int lines) {
            int route = count;
            if (route >= MAX_ROUTES) {
                return FULL;
            }
            owners[route] = s;
            prefixes[route] = prefix;
            nexts[route] = next;
            for (int band = 0; band < BANDS; band++) {
                costs[route * BANDS + band] = cost;
            }
            lineCounts[route] = lines;
            occupied[route] = 0;
            count = route + 1;
            return route;
        }

        int switchOf(int route) {
            return has(route) ? owners[route] : NONE;
        }

        int nextOf(int route) {
            return has(route) ? nexts[route] : NONE;
        }

        boolean serves(int route) {
            return has(route) && owners[route] == nexts[route];
        }

        int costOf(int route, int band) {
            int i = route * BANDS + band;
            return i >= 0 && i < MAX_ROUTES * BANDS ? costs[i] : 0;
        }

        int changeCost(int route, int band, int cost) {
            if (!has(route) || !inRange(band, 0, BANDS - 1)) {
                return BAD;
            }
            int previous = costs[route * BANDS + band];
            costs[route * BANDS + band] = cost;
            return previous;
        }

        boolean hasFreeLine(int route) {
            return has(route) && occupied[route] < lineCounts[route];
        }

        void occupy(int route) {
            if (has(route) && !serves(route)) {
                occupied[route]++;
            }
        }

        void release(int route) {
            if (has(route) && !serves(route)) {
                occupied[route]--;
            }
        }

        int numberOf(int route, int what) {
            if (!has(route)) {
                return BAD;
            }
            switch (what) {
                case 0:
                    return owners[route];
                case 1:
                    return prefixes[route];
                case 2:
                    return nexts[route];
                case 3:
                case 4:
                case 5:
                    return costOf(route, what - FIRST_COST);
                case 6:
                    return lineCounts[route];
                case 7:
                    return occupied[route];
                default:
                    return BAD;
            }
        }

        /** Of two prefixes of the same digits the longer one is the greater number, as none begins with 0. */
        int longestPrefix(int s, long digits) {
            int longest = NONE;
            for (int route = 0; route < count && route < MAX_ROUTES; route++) {
                int prefix = prefixes[route];
                if (owners[route] == s && prefix > longest && beginsWith(digits, prefix)) {
                    longest = prefix;
                }
            }
            return longest;
        }

        boolean belongs(int route, int s, int prefix) {
            return has(route) && owners[route] == s && prefixes[route] == prefix;
        }

        /** The route of s with this prefix that is tried behind another one, or first if that is NONE. */
        int choiceAfter(int last, int s, int prefix, int band) {
            int best = NONE;
            for (int route = 0; route < count; route++) {
                if (belongs(route, s, prefix)
                        && (last == NONE || isBefore(last, route, band))
                        && (best == NONE || isBefore(route, best, band))) {
                    best = route;
                }
            }
            return best;
        }

        private boolean isBefore(int route, int other, int band) {
            int cost = costOf(route, band);
            int otherCost = costOf(other, band);
            return cost < otherCost || cost == otherCost && route < other;
        }

        long fold(long start) {
            long sum = start;
            for (int route = 0; route < count; route++) {
                for (int what = 0; what < WHATS; what++) {
                    sum = 31L * sum + numberOf(route, what);
                }
            }
            return sum;
        }
    }

    /** The ported numbers; nothing that is promised depends on their order. */
    private static final class Ports {
        private final int[] numbers = new int[MAX_PORTS];
        private final int[] targets = new int[MAX_PORTS];
        private int count = 0;

        void copyFrom(Ports other) {
            System.arraycopy(other.numbers, 0, numbers, 0, MAX_PORTS);
            System.arraycopy(other.targets, 0, targets, 0, MAX_PORTS);
            count = other.count;
        }

        int size() {
            return count;
        }

        private int indexOf(int number) {
            for (int i = 0; i < count && i < MAX_PORTS; i++) {
                if (numbers[i] == number) {
                    return i;
                }
            }
            return NONE;
        }

        int switchOf(int number) {
            int i = indexOf(number);
            return i >= 0 ? targets[i] : NONE;
        }

        int put(int number, int s) {
            int i = indexOf(number);
            if (i >= 0) {
                int previous = targets[i];
                targets[i] = s;
                return previous;
            }
            if (count < MAX_PORTS) {
                numbers[count] = number;
                targets[count] = s;
                count++;
            }
            return NONE;
        }

        int remove(int number) {
            int i = indexOf(number);
            if (i < 0) {
                return NONE;
            }
            int previous = targets[i];
            count--;
            numbers[i] = numbers[count];
            targets[i] = targets[count];
            return previous;
        }
    }

    /** The calls that are connected, by their places; the number 0 stands for a free place. */
    private static final class Calls {
        private final int[] numbers = new int[MAX_CALLS];
        private final int[] starts = new int[MAX_CALLS];
        private final int[] lengths = new int[MAX_CALLS];
        private final int[] steps = new int[MAX_CALLS * MAX_LIMIT];
        private int count = 0;

        void copyFrom(Calls other) {
            System.arraycopy(other.numbers, 0, numbers, 0, MAX_CALLS);
            System.arraycopy(other.starts, 0, starts, 0, MAX_CALLS);
            System.arraycopy(other.lengths, 0, lengths, 0, MAX_CALLS);
            System.arraycopy(other.steps, 0, steps, 0, MAX_CALLS * MAX_LIMIT);
            count = other.count;
        }

        int size() {
            return count;
        }

        boolean has(int place) {
            return place >= 0 && place < MAX_CALLS && numbers[place] != 0;
        }

        int freePlace() {
            for (int place = 0; place < MAX_CALLS; place++) {
                if (numbers[place] == 0) {
                    return place;
                }
            }
            return NONE;
        }

        boolean isBusy(int number) {
            for (int place = 0; place < MAX_CALLS; place++) {
                if (numbers[place] == number) {
                    return true;
                }
            }
            return false;
        }

        void put(int place, int number, int start) {
            if (inRange(place, 0, MAX_CALLS - 1)) {
                numbers[place] = number;
                starts[place] = start;
                lengths[place] = 0;
                count++;
            }
        }

        void addStep(int place, int route) {
            if (has(place) && inRange(lengths[place], 0, MAX_LIMIT - 1)) {
                steps[place * MAX_LIMIT + lengths[place]] = route;
                lengths[place]++;
            }
        }

        void remove(int place) {
            if (has(place)) {
                numbers[place] = 0;
                count--;
            }
        }

        int numberAt(int place) {
            return has(place) ? numbers[place] : NONE;
        }

        int startOf(int place) {
            return has(place) ? starts[place] : 0;
        }

        int length(int place) {
            return has(place) ? lengths[place] : 0;
        }

        int step(int place, int i) {
            return i >= 0 && i < length(place) && i < MAX_LIMIT ? steps[place * MAX_LIMIT + i] : NONE;
        }
    }

    /** The latest states, the oldest one at the index first, the others behind it in a circle. */
    private static final class History {
        private final Network[] states = new Network[MAX_STATES];
        private int first = 0;
        private int count = 0;

        History() {
            for (int i = 0; i < MAX_STATES; i++) {
                states[i] = new Network();
            }
        }

        int size() {
            return count;
        }

        private Network stateAt(int i) {
            return states[Math.floorMod(first + i, MAX_STATES)];
        }

        void push(Network network) {
            if (count == MAX_STATES) {
                first = (first + 1) % MAX_STATES;
                count--;
            }
            Network state = stateAt(count);
            if (state != null) {
                state.copyFrom(network);
                count++;
            }
        }

        boolean pop(Network network) {
            if (count == 0) {
                return false;
            }
            count--;
            Network state = stateAt(count);
            if (state != null) {
                network.copyFrom(state);
            }
            return true;
        }
    }

    /** The attempts of the latest call. */
    private static final class Trace {
        private final int[] routes = new int[MAX_ATTEMPTS];
        private final int[] codes = new int[MAX_ATTEMPTS];
        private int count = 0;

        int size() {
            return count;
        }

        boolean has(int i) {
            return i >= 0 && i < count && i < MAX_ATTEMPTS;
        }

        void empty() {
            count = 0;
        }

        /** The index of the new attempt, or NONE if it would be one too many. */
        int begin(int route) {
            if (count >= MAX_ATTEMPTS) {
                return NONE;
            }
            routes[count] = route;
            count++;
            return count - 1;
        }

        void finish(int i, int code) {
            if (has(i)) {
                codes[i] = code;
            }
        }

        int routeAt(int i) {
            return has(i) ? routes[i] : NONE;
        }

        int codeAt(int i) {
            return has(i) ? codes[i] : NONE;
        }
    }

    /**
     * A call that looks for its way. It occupies no lines before it is connected: a call is at each
     * switch once at the most, so that no line of its own could ever stand in its way.
     */
    private static final class Journey {
        private final Trace trace = new Trace();
        private final int[] steps = new int[MAX_LIMIT];
        private int length = 0;
        private int wanted = 0;
        private int presentBand = 0;
        private int lastCode = CONNECTED;

        Trace trace() {
            return trace;
        }

        int number() {
            return wanted;
        }

        int length() {
            return length;
        }

        int step(int i) {
            return i >= 0 && i < length && i < MAX_LIMIT ? steps[i] : NONE;
        }

        int start(Network network, int s, int number) {
            wanted = number;
            length = 0;
            presentBand = bandOf(network.minutes());
            lastCode = network.callRows().isBusy(number) ? BUSY : CONNECTED;
            trace.empty();
            return arrive(network, s, 0, NONE);
        }

        /** The switches at which the call has been, bit s for switch s, grow by one with each level. */
        private int arrive(Network network, int s, int been, int mark) {
            int hops = Integer.bitCount(been);
            if ((been >> s & 1) != 0) {
                return LOOP;
            }
            if (hops >= network.hopLimit() || hops >= MAX_LIMIT) {
                return TOO_MANY_HOPS;
            }
            int markHere = network.markAt(s, wanted, mark);
            if (markHere == s) {
                length = hops;
                return lastCode;
            }
            return tryRoutes(network, s, been, markHere);
        }

        private int tryRoutes(Network network, int s, int been, int mark) {
            Routes routes = network.routeRows();
            int prefix = routes.longestPrefix(s, digitsOf(wanted, mark));
            int route = routes.choiceAfter(NONE, s, prefix, presentBand);
            int code = NO_ROUTE;
            for (int tried = 0; tried < MAX_ROUTES && route != NONE; tried++) {
                code = tryRoute(network, route, been, mark);
                if (!network.goesOn(s, code)) {
                    return code;
                }
                route = routes.choiceAfter(route, s, prefix, presentBand);
            }
            return code;
        }

        private int tryRoute(Network network, int route, int been, int mark) {
            int hops = Integer.bitCount(been);
            if (hops >= MAX_LIMIT) {
                return TOO_MANY_HOPS;
            }
            int index = trace.begin(route);
            if (index == NONE) {
                return TOO_MANY_ATTEMPTS;
            }
            Routes routes = network.routeRows();
            int code = NO_LINES;
            steps[hops] = route;
            if (routes.serves(route)) {
                length = hops + 1;
                code = lastCode;
            } else if (routes.hasFreeLine(route)) {
                code = arrive(network, routes.nextOf(route), been | 1 << routes.switchOf(route), mark);
            }
            trace.finish(index, code);
            return code;
        }
    }

    /**
     * The search for the least cost. Which routes a switch takes depends on the switch and on the
     * mark alone, so the least cost from each switch to each next one is found once a search.
     */
    private static final class CheapestWay {
        private static final int NO_WAY = 1000000;

        private final int[] plainCosts = new int[MAX_SWITCHES * MAX_SWITCHES];
        private final int[] markedCosts = new int[MAX_SWITCHES * MAX_SWITCHES];
        private int wanted = 0;
        private int least = NO_WAY;

        int search(Network network, int s, int number) {
            wanted = number;
            least = NO_WAY;
            fill(network, plainCosts, NONE);
            int target = network.portRows().switchOf(number);
            if (target != NONE) {
                fill(network, markedCosts, target);
            }
            arrive(network, s, 0, NONE, 0);
            return least == NO_WAY ? NONE : least;
        }

        private void fill(Network network, int[] costs, int mark) {
            for (int i = 0; i < costs.length; i++) {
                costs[i] = NO_WAY;
            }
            long digits = digitsOf(wanted, mark);
            for (int s = 0; s < network.switchCount(); s++) {
                fillSwitch(network, costs, s, network.routeRows().longestPrefix(s, digits));
            }
        }

        private void fillSwitch(Network network, int[] costs, int s, int prefix) {
            Routes routes = network.routeRows();
            int band = bandOf(network.minutes());
            for (int route = 0; route < routes.size(); route++) {
                int place = s * MAX_SWITCHES + routes.nextOf(route);
                if (routes.belongs(route, s, prefix) && place >= 0 && place < costs.length) {
                    int cost = routes.serves(route) ? 0 : routes.costOf(route, band);
                    costs[place] = Math.min(costs[place], cost);
                }
            }
        }

        private int costBetween(int s, int next, int mark) {
            int place = s * MAX_SWITCHES + next;
            if (place < 0 || place >= MAX_SWITCHES * MAX_SWITCHES) {
                return NO_WAY;
            }
            return mark == NONE ? plainCosts[place] : markedCosts[place];
        }

        /** A way that costs as much as the least one known is not followed: no cost is negative. */
        private void arrive(Network network, int s, int been, int mark, int spent) {
            int hops = Integer.bitCount(been);
            if ((been >> s & 1) != 0 || hops >= network.hopLimit() || hops >= MAX_LIMIT || spent >= least) {
                return;
            }
            int markHere = network.markAt(s, wanted, mark);
            if (markHere == s || costBetween(s, s, markHere) == 0) {
                least = spent;
                return;
            }
            for (int next = 0; next < network.switchCount(); next++) {
                int cost = costBetween(s, next, markHere);
                if (cost != NO_WAY) {
                    arrive(network, next, been | 1 << s, markHere, spent + cost);
                }
            }
        }
    }

    /** The buffer, and the commands that were read from it. */
    private static final class Text {
        private static final char END = 0;

        private final char[] signs = new char[MAX_TEXT];
        private final char[] kinds = new char[MAX_COMMANDS];
        private final int[] switches = new int[MAX_COMMANDS];
        private final int[] others = new int[MAX_COMMANDS];
        private final int[] numbers = new int[MAX_COMMANDS];
        private final int[] costs = new int[MAX_COMMANDS];
        private final int[] lineCounts = new int[MAX_COMMANDS];
        private int length = 0;
        private int commands = 0;
        private int at = 0;

        int size() {
            return length;
        }

        void empty() {
            length = 0;
        }

        boolean append(char sign) {
            if (length >= MAX_TEXT) {
                return false;
            }
            signs[length] = sign;
            length++;
            return true;
        }

        int commandCount() {
            return commands;
        }

        /** Reading stops at the first character that cannot stand at its place, or at the end. */
        int errorPlace() {
            return at;
        }

        boolean parse() {
            at = 0;
            commands = 0;
            for (int i = 0; i < MAX_COMMANDS; i++) {
                if (!readCommand(i)) {
                    return false;
                }
                commands = i + 1;
                if (at >= length) {
                    return true;
                }
                if (!skip(';')) {
                    return false;
                }
            }
            return false;
        }

        private char sign() {
            return at >= 0 && at < length && at < MAX_TEXT ? signs[at] : END;
        }

        private boolean skip(char sign) {
            if (sign() != sign) {
                return false;
            }
            at++;
            return true;
        }

        private boolean isDigit() {
            return sign() >= '0' && sign() <= '9';
        }

        private int readDigit() {
            if (!isDigit()) {
                return NONE;
            }
            int digit = sign() - '0';
            at++;
            return digit;
        }

        /** The value of up to so many digits; 0 if there are none. */
        private int readDigits(int most) {
            int value = 0;
            for (int i = 0; i < most && isDigit(); i++) {
                value = 10 * value + (sign() - '0');
                at++;
            }
            return value;
        }

        private boolean readCommand(int i) {
            if (i < 0 || i >= MAX_COMMANDS) {
                return false;
            }
            kinds[i] = sign();
            if (skip('r')) {
                return readRoute(i);
            }
            if (skip('p')) {
                return readPort(i);
            }
            return skip('l') && readSwitch(i);
        }

        private boolean readSwitch(int i) {
            switches[i] = readDigit();
            return switches[i] != NONE;
        }

        private boolean readRoute(int i) {
            if (!readSwitch(i) || !skip('>')) {
                return false;
            }
            others[i] = readDigit();
            if (others[i] == NONE || !skip(':')) {
                return false;
            }
            numbers[i] = sign() == '0' ? 0 : readDigits(NUMBER_DIGITS);
            if (!skip('@') || !isDigit()) {
                return false;
            }
            costs[i] = readDigits(COUNT_DIGITS);
            if (!skip('x') || !isDigit()) {
                return false;
            }
            lineCounts[i] = readDigits(COUNT_DIGITS);
            return true;
        }

        private boolean readPort(int i) {
            if (sign() == '0' || !isDigit()) {
                return false;
            }
            numbers[i] = readDigits(NUMBER_DIGITS);
            return skip('>') && readSwitch(i);
        }

        /** False if the command is not possible; then the network is as it was. */
        boolean carryOut(int i, Network network) {
            if (i < 0 || i >= commands || i >= MAX_COMMANDS) {
                return false;
            }
            if (kinds[i] == 'r') {
                return putRoute(i, network);
            }
            return kinds[i] == 'p' ? putPort(i, network) : letLookUp(i, network);
        }

        private boolean putRoute(int i, Network network) {
            int s = switches[i];
            int next = others[i];
            if (network.routeRefusal(s, numbers[i], next, costs[i], lineCounts[i]) != ALLOWED) {
                return false;
            }
            network.routeRows().put(s, numbers[i], next, costs[i], lineCounts[i]);
            return true;
        }

        private boolean putPort(int i, Network network) {
            if (network.portRefusal(numbers[i], switches[i]) != ALLOWED) {
                return false;
            }
            network.portRows().put(numbers[i], switches[i]);
            return true;
        }

        private boolean letLookUp(int i, Network network) {
            if (!network.hasSwitch(switches[i])) {
                return false;
            }
            network.changeLookup(switches[i], true);
            return true;
        }
    }
}
