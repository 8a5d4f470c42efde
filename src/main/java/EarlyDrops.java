import java.util.Arrays;

/** A router that drops early and at random. What each call promises stands in ../shared/DOC.md. */
public final class EarlyDrops {

    public static final int NONE = -1;

    private static final int LAST_TIME = 9999;
    private static final int MOST_BYTES = 500;
    private static final int MOST_FLOWS = 6;
    private static final int MOST_LETTERS = 8;
    private static final int MOST_PACKETS = 40;
    private static final int MOST_TICKS = 50;
    private static final int MOST_AHEAD = 200;
    private static final int MOST_TRIED = 100;
    private static final int MOST_BURST = 60;
    private static final int MOST_AVERAGE = 99999;
    private static final int MOST_COUNT = 9999;
    private static final int MOST_UNDOS = 8;
    private static final int SLOTS = 2;

    private static final int UNIT = 1024;
    private static final int WHOLE = 65536;
    private static final int TOP_STEP = 4096;

    private static final int HIGHEST_MIN = 39;
    private static final int HIGHEST_MAX = 40;
    private static final int HIGHEST_WEIGHT = 10;

    private static final int FULL = 0;
    private static final int BELOW = 1;
    private static final int ABOVE = 2;
    private static final int BETWEEN = 3;

    private static final int LET_IN = 0;
    private static final int MARKED = 1;
    private static final int DROPPED = 2;

    private static final int ACCOUNTS = 8;
    private static final int ARRIVED = 0;
    private static final int WITH_MARK = 1;
    private static final int DROPPED_BETWEEN = 2;
    private static final int DROPPED_ABOVE = 3;
    private static final int DROPPED_FULL = 4;
    private static final int LEFT = 5;
    private static final int LEFT_WITH_MARK = 6;
    private static final int WAITED = 7;

    private static final int TIME_OVER = -2;
    private static final int SO_ALREADY = -3;

    private static final int NOT_ALLOWED = 1;
    private static final int OUT_OF_RANGE = 2;
    private static final int TOLD_TWICE = 3;
    private static final int NO_SUCH_FLOW = 4;
    private static final int TOO_MANY = 5;

    private final Reader text;
    private final Setup setup;
    private final Script script;
    private final Router router;
    private final Router ahead;
    private final Past past;
    private final Router[] saved;
    private final boolean[] isSaved;
    private final StringBuilder written;

    public EarlyDrops() {
        text = new Reader();
        setup = new Setup(text);
        router = new Router();
        script = new Script(text, router);
        ahead = new Router();
        past = new Past();
        saved = new Router[SLOTS];
        for (int slot = 0; slot < saved.length; slot++) {
            saved[slot] = new Router();
        }
        isSaved = new boolean[SLOTS];
        written = new StringBuilder();
    }

    // ---- texts

    public int feed(int a, int b, int c, int d, int e) {
        int more = Reader.bytesOf(a) + Reader.bytesOf(b) + Reader.bytesOf(c) + Reader.bytesOf(d) + Reader.bytesOf(e);
        if (text.length + more > MOST_BYTES) {
            return NONE;
        }
        text.take(a);
        text.take(b);
        text.take(c);
        text.take(d);
        text.take(e);
        return text.length;
    }

    public int load() {
        boolean fine = setup.readAll();
        text.empty();
        if (!fine) {
            return -10 - text.error;
        }
        router.copyFrom(setup.router);
        past.forget();
        for (int slot = 0; slot < isSaved.length; slot++) {
            isSaved[slot] = false;
        }
        return router.flowCount;
    }

    public int run() {
        boolean fine = script.readAll();
        text.empty();
        if (!fine) {
            return -10 - text.error;
        }
        past.keep(router);
        return script.perform();
    }

    public int errorPosition() {
        return text.errorAt;
    }

    // ---- as it is now

    public int size(int what) throws IllegalArgumentException {
        requireWithin(what, 0, 14);
        switch (what) {
            case 0: return router.limit;
            case 1: return router.rate;
            case 2: return router.min;
            case 3: return router.max;
            case 4: return router.top;
            case 5: return router.weight;
            case 6: return router.gentle;
            case 7: return router.time;
            case 8: return router.queue.length;
            case 9: return router.average;
            case 10: return router.count;
            case 11: return router.flowCount;
            case 12: return router.flowsOn();
            case 13: return router.decisions.kept;
            default: return past.kept;
        }
    }

    public int flow(int flow, int what) throws IndexOutOfBoundsException, IllegalArgumentException {
        Flow asked = flowAt(flow);
        requireWithin(what, 0, 10);
        switch (what) {
            case 0: return asked.first;
            case 1: return asked.period;
            case 2: return asked.start;
            case 3: return asked.cap;
            case 4: return asked.marks ? 1 : 0;
            case 5: return asked.on ? 1 : 0;
            case 6: return asked.window;
            case 7: return asked.told ? 1 : 0;
            case 8: return router.queue.packetsOf(flow);
            case 9: return asked.ticksToSending(router.time);
            default: return asked.sendings;
        }
    }

    public int letter(int flow, int i) throws IndexOutOfBoundsException {
        String name = flowAt(flow).name;
        return i >= 0 && i < name.length() ? name.charAt(i) : NONE;
    }

    public int packet(int k, int what) throws IndexOutOfBoundsException, IllegalArgumentException {
        requireIndex(k, router.queue.length);
        requireWithin(what, 0, 2);
        return router.queue.cell(k, what);
    }

    public long account(int flow, int what) throws IndexOutOfBoundsException, IllegalArgumentException {
        requireFlowOrNone(flow);
        requireWithin(what, 0, ACCOUNTS - 1);
        return router.total(flow, what);
    }

    public int decision(int k, int what) throws IndexOutOfBoundsException, IllegalArgumentException {
        requireIndex(k, router.decisions.kept);
        requireWithin(what, 0, 7);
        return router.decisions.cell(k, what);
    }

    public int amiss() {
        int amiss = 0;
        for (int k = 0; k < router.decisions.kept; k++) {
            if (router.decisions.isAmiss(k)) {
                amiss++;
            }
        }
        return amiss;
    }

    public double average() {
        return (double) router.average / (double) UNIT;
    }

    public float lossShare() {
        long arrived = router.total(NONE, ARRIVED);
        return arrived > 0 ? (float) router.dropped() / (float) arrived : 0.0f;
    }

    public double fairness() {
        long sum = 0;
        long squares = 0;
        for (int i = 0; i < router.flowCount; i++) {
            long left = router.total(i, LEFT);
            sum += left;
            squares += left * left;
        }
        long divisor = router.flowCount * squares;
        return divisor > 0 ? (double) (sum * sum) / (double) divisor : 1.0;
    }

    public double meanWait(int flow) throws IndexOutOfBoundsException {
        requireFlowOrNone(flow);
        long left = router.total(flow, LEFT);
        return left > 0 ? (double) router.total(flow, WAITED) / (double) left : 0.0;
    }

    // ---- chances, as things are now

    public int base(int average) throws IllegalArgumentException {
        requireWithin(average, 0, MOST_AVERAGE);
        return router.baseAt(average);
    }

    public int chance(int average, int count) throws IllegalArgumentException {
        requireWithin(average, 0, MOST_AVERAGE);
        requireWithin(count, 0, MOST_COUNT);
        return Router.chanceAt(BETWEEN, router.baseAt(average), count);
    }

    public int next() {
        int packets = router.queue.length;
        return router.wayAt(packets, router.averageAfter(packets, router.average));
    }

    public int nextChance() {
        int packets = router.queue.length;
        int average = router.averageAfter(packets, router.average);
        return Router.chanceAt(router.wayAt(packets, average), router.baseAt(average), router.count + 1);
    }

    public double burst(int packets) throws IllegalArgumentException {
        requireWithin(packets, 1, MOST_BURST);
        return shareLetIn(packets);
    }

    public int sureBurst(int percent) throws IllegalArgumentException {
        requireWithin(percent, 1, 100);
        double share = (double) percent / 100.0;
        int sure = 0;
        for (int packets = 1; packets <= MOST_BURST; packets++) {
            if (shareLetIn(packets) >= share) {
                sure = packets;
            }
        }
        return sure;
    }

    // ---- what will come, if only ticks pass, with the draws as they will be (nothing changes)

    public long accountIn(int flow, int what, int ticks) throws IndexOutOfBoundsException, IllegalArgumentException {
        requireFlowOrNone(flow);
        requireWithin(what, 0, ACCOUNTS - 1);
        requireWithin(ticks, 0, MOST_AHEAD);
        lookAhead(ticks);
        return ahead.total(flow, what) - router.total(flow, what);
    }

    public int queueIn(int ticks) throws IllegalArgumentException {
        requireWithin(ticks, 0, MOST_AHEAD);
        lookAhead(ticks);
        return ahead.queue.length;
    }

    public int averageIn(int ticks) throws IllegalArgumentException {
        requireWithin(ticks, 0, MOST_AHEAD);
        lookAhead(ticks);
        return ahead.average;
    }

    public int windowIn(int flow, int ticks) throws IndexOutOfBoundsException, IllegalArgumentException {
        requireIndex(flow, router.flowCount);
        requireWithin(ticks, 0, MOST_AHEAD);
        lookAhead(ticks);
        return ahead.flows[flow].window;
    }

    public int longest(int ticks) throws IllegalArgumentException {
        requireWithin(ticks, 1, MOST_AHEAD);
        ahead.copyFrom(router);
        int longest = 0;
        for (int passed = 0; passed < ticks; passed++) {
            ahead.passTick();
            longest = Math.max(longest, ahead.queue.length);
        }
        return longest;
    }

    public int dropIn() {
        ahead.copyFrom(router);
        long droppedNow = router.dropped();
        for (int ticks = 1; ticks <= MOST_AHEAD; ticks++) {
            ahead.passTick();
            if (ahead.dropped() > droppedNow) {
                return ticks;
            }
        }
        return NONE;
    }

    public int bestWeight(int ticks) throws IllegalArgumentException {
        requireWithin(ticks, 1, MOST_TRIED);
        int best = 0;
        long fewest = NONE;
        for (int weight = 0; weight <= HIGHEST_WEIGHT; weight++) {
            ahead.copyFrom(router);
            ahead.weight = weight;
            long dropped = droppedBehind(ticks);
            if (fewest == NONE || dropped < fewest) {
                fewest = dropped;
                best = weight;
            }
        }
        return best;
    }

    public int bestTop(int ticks) throws IllegalArgumentException {
        requireWithin(ticks, 1, MOST_TRIED);
        int best = 0;
        long fewest = NONE;
        for (int top = 0; top <= WHOLE; top += TOP_STEP) {
            ahead.copyFrom(router);
            ahead.top = top;
            long dropped = droppedBehind(ticks);
            if (fewest == NONE || dropped < fewest) {
                fewest = dropped;
                best = top;
            }
        }
        return best;
    }

    public long gain(int ticks) throws IllegalArgumentException {
        requireWithin(ticks, 1, MOST_AHEAD);
        ahead.copyFrom(router);
        long dropped = droppedBehind(ticks);
        ahead.copyFrom(router);
        ahead.early = false;
        return droppedBehind(ticks) - dropped;
    }

    // ---- changes

    public int tick(int ticks) throws IllegalArgumentException {
        requireWithin(ticks, 1, MOST_TICKS);
        if (router.time + ticks > LAST_TIME) {
            return TIME_OVER;
        }
        past.keep(router);
        return router.passTicks(ticks);
    }

    public int send(int flow, int packets) throws IndexOutOfBoundsException, IllegalArgumentException {
        requireIndex(flow, router.flowCount);
        requireWithin(packets, 1, MOST_PACKETS);
        past.keep(router);
        return router.arriveAll(flow, packets);
    }

    public int setLimits(int min, int max) throws IllegalArgumentException {
        requireWithin(min, 0, HIGHEST_MIN);
        requireWithin(max, min + 1, HIGHEST_MAX);
        past.keep(router);
        return router.changeLimits(min, max);
    }

    public int setTop(int top) throws IllegalArgumentException {
        requireWithin(top, 0, WHOLE);
        past.keep(router);
        return router.changeTop(top);
    }

    public int setWeight(int weight) throws IllegalArgumentException {
        requireWithin(weight, 0, HIGHEST_WEIGHT);
        past.keep(router);
        return router.changeWeight(weight);
    }

    public int setGentle(int gentle) throws IllegalArgumentException {
        requireWithin(gentle, 0, 1);
        past.keep(router);
        return router.changeGentle(gentle);
    }

    public int setOn(int flow, boolean on) throws IndexOutOfBoundsException {
        if (flowAt(flow).on == on) {
            return SO_ALREADY;
        }
        past.keep(router);
        return router.changeOn(flow, on);
    }

    // ---- reports, undo, saved states

    public int report() {
        written.setLength(0);
        for (int i = 0; i < router.flowCount && i < MOST_FLOWS; i++) {
            writeFlow(router.flows[i]);
        }
        written.append('|');
        for (int k = 0; k < router.queue.length; k++) {
            written.append(router.queue.cell(k, 0));
            if (router.queue.cell(k, 2) == 1) {
                written.append('*');
            }
        }
        return written.length();
    }

    public int reportByte(int i) {
        return i >= 0 && i < written.length() ? written.charAt(i) : NONE;
    }

    public int undo() {
        return past.takeBack(router) ? past.kept : NONE;
    }

    public int save(int slot) throws IllegalArgumentException {
        requireWithin(slot, 0, SLOTS - 1);
        saved[slot].copyFrom(router);
        isSaved[slot] = true;
        return router.time;
    }

    public int restore(int slot) throws IllegalArgumentException {
        requireWithin(slot, 0, SLOTS - 1);
        if (!isSaved[slot]) {
            return NONE;
        }
        router.copyFrom(saved[slot]);
        past.forget();
        return router.time;
    }

    // ---- what the calls share

    private static void requireWithin(int value, int lowest, int highest) {
        if (value < lowest || value > highest) {
            throw new IllegalArgumentException("out of range");
        }
    }

    private static void requireIndex(int index, int length) {
        if (index < 0 || index >= length) {
            throw new IndexOutOfBoundsException("none such");
        }
    }

    private void requireFlowOrNone(int flow) {
        if (flow != NONE) {
            requireIndex(flow, router.flowCount);
        }
    }

    private Flow flowAt(int flow) {
        requireIndex(flow, router.flowCount);
        return router.flows[flow];
    }

    private void lookAhead(int ticks) {
        ahead.copyFrom(router);
        for (int passed = 0; passed < ticks; passed++) {
            ahead.passTick();
        }
    }

    private long droppedBehind(int ticks) {
        for (int passed = 0; passed < ticks; passed++) {
            ahead.passTick();
        }
        return ahead.dropped();
    }

    private double shareLetIn(int packets) {
        double share = 1.0;
        int average = router.average;
        int count = router.count;
        int waiting = router.queue.length;
        for (int sent = 0; sent < packets; sent++) {
            average = router.averageAfter(waiting, average);
            int way = router.wayAt(waiting, average);
            int chance = Router.chanceAt(way, router.baseAt(average), count + 1);
            share *= (double) (WHOLE - chance) / (double) WHOLE;
            count = way == BETWEEN ? count + 1 : NONE;
            waiting++;
        }
        return share;
    }

    private void writeFlow(Flow flow) {
        written.append(flow.name);
        written.append(':');
        written.append((int) flow.accounts[ARRIVED]);
        written.append('/');
        written.append((int) flow.accounts[LEFT]);
        if (flow.told) {
            written.append('!');
        }
        written.append(' ');
    }

    /** One source of packets, and what became of those that it sent. */
    private static final class Flow {
        String name = "";
        int first;
        int period;
        int start;
        int cap;
        boolean marks;
        boolean on;
        int window;
        boolean told;
        int sendings;
        final long[] accounts = new long[ACCOUNTS];

        void begin() {
            on = true;
            window = start;
            told = false;
            sendings = 0;
            Arrays.fill(accounts, 0L);
        }

        void copyFrom(Flow other) {
            name = other.name;
            first = other.first;
            period = other.period;
            start = other.start;
            cap = other.cap;
            marks = other.marks;
            on = other.on;
            window = other.window;
            told = other.told;
            sendings = other.sendings;
            System.arraycopy(other.accounts, 0, accounts, 0, ACCOUNTS);
        }

        boolean sendsAt(int time) {
            return on && time >= first && period > 0 && (time - first) % period == 0;
        }

        int ticksToSending(int time) {
            if (time < first || period < 1) {
                return first - time;
            }
            return period - (time - first) % period;
        }

        void adapt() {
            if (sendings > 0) {
                window = told ? Math.max(window / 2, 1) : Math.min(window + 1, cap);
            }
            told = false;
            sendings++;
        }

        void countArrival(int way, int outcome) {
            accounts[ARRIVED]++;
            if (outcome == MARKED) {
                accounts[WITH_MARK]++;
            }
            if (outcome == DROPPED) {
                accounts[way == FULL ? DROPPED_FULL : way == ABOVE ? DROPPED_ABOVE : DROPPED_BETWEEN]++;
            }
            told = told || outcome != LET_IN;
        }

        void countLeaving(int waited, int marked) {
            accounts[LEFT]++;
            accounts[LEFT_WITH_MARK] += marked;
            accounts[WAITED] += waited;
        }

        long drops() {
            return accounts[DROPPED_BETWEEN] + accounts[DROPPED_ABOVE] + accounts[DROPPED_FULL];
        }
    }

    /** The packets that wait, the one that leaves first at the front: of each its flow, its time, its mark. */
    private static final class Queue {
        private static final int CELLS = 3;

        final int[] cells = new int[MOST_PACKETS * CELLS];
        int length;

        void copyFrom(Queue other) {
            length = other.length;
            System.arraycopy(other.cells, 0, cells, 0, cells.length);
        }

        int cell(int k, int what) {
            int at = k * CELLS + what;
            return at >= 0 && at < cells.length ? cells[at] : NONE;
        }

        void add(int flow, int time, int marked) {
            int at = length * CELLS;
            if (at < 0 || at + 2 >= cells.length) {
                return;
            }
            cells[at] = flow;
            cells[at + 1] = time;
            cells[at + 2] = marked;
            length++;
        }

        void removeFirst(int packets) {
            if (packets < 0 || packets > length) {
                return;
            }
            length -= packets;
            System.arraycopy(cells, packets * CELLS, cells, 0, length * CELLS);
        }

        int packetsOf(int flow) {
            int packets = 0;
            for (int k = 0; k < length; k++) {
                if (cell(k, 0) == flow) {
                    packets++;
                }
            }
            return packets;
        }
    }

    /** The latest decisions, in a ring of rows, so that keeping one moves no other. */
    private static final class Decisions {
        private static final int ROWS = 24;
        private static final int CELLS = 8;

        final int[] cells = new int[ROWS * CELLS];
        int kept;
        int latest;

        void copyFrom(Decisions other) {
            kept = other.kept;
            latest = other.latest;
            System.arraycopy(other.cells, 0, cells, 0, cells.length);
        }

        void forget() {
            kept = 0;
            latest = 0;
        }

        void open(int time, int flow, int way, int average) {
            latest = (latest + 1) % ROWS;
            kept = Math.min(kept + 1, ROWS);
            int at = latest * CELLS;
            if (at < 0 || at + 3 >= cells.length) {
                return;
            }
            cells[at] = time;
            cells[at + 1] = flow;
            cells[at + 2] = way;
            cells[at + 3] = average;
        }

        /** Fills the row that open began: a method takes too few parameters for all eight. */
        void close(int count, int chance, int drawn, int outcome) {
            int at = latest * CELLS + 4;
            if (at < 0 || at + 3 >= cells.length) {
                return;
            }
            cells[at] = count;
            cells[at + 1] = chance;
            cells[at + 2] = drawn;
            cells[at + 3] = outcome;
        }

        int cell(int k, int what) {
            int at = (latest + ROWS - k) % ROWS * CELLS + what;
            return at >= 0 && at < cells.length ? cells[at] : NONE;
        }

        boolean isAmiss(int k) {
            if (cell(k, 2) != BETWEEN) {
                return false;
            }
            boolean isHit = cell(k, 6) < cell(k, 5);
            boolean isLetIn = cell(k, 7) == LET_IN;
            return isHit == isLetIn;
        }
    }

    /** All that undoing restores: settings, flows, queue, decisions, and how they go on. */
    private static final class Router {
        int limit;
        int rate;
        int min;
        int max;
        int top;
        int weight;
        int gentle;
        int time;
        int average;
        int count;
        int x;
        // false only in a look ahead at what would come without early drops
        boolean early;
        int flowCount;
        final Flow[] flows = new Flow[MOST_FLOWS];
        final Queue queue = new Queue();
        final Decisions decisions = new Decisions();

        Router() {
            for (int i = 0; i < flows.length; i++) {
                flows[i] = new Flow();
            }
            begin();
        }

        void begin() {
            limit = 20;
            rate = 1;
            min = 5;
            max = 15;
            top = 6554;
            weight = 4;
            gentle = 0;
            time = 0;
            average = 0;
            count = NONE;
            x = 1;
            early = true;
            flowCount = 0;
            queue.length = 0;
            decisions.forget();
        }

        void copyFrom(Router other) {
            limit = other.limit;
            rate = other.rate;
            min = other.min;
            max = other.max;
            top = other.top;
            weight = other.weight;
            gentle = other.gentle;
            time = other.time;
            average = other.average;
            count = other.count;
            x = other.x;
            early = other.early;
            flowCount = other.flowCount;
            for (int i = 0; i < flowCount && i < MOST_FLOWS; i++) {
                flows[i].copyFrom(other.flows[i]);
            }
            queue.copyFrom(other.queue);
            decisions.copyFrom(other.decisions);
        }

        boolean hasFlow(int flow) {
            return flow >= 0 && flow < flowCount && flow < MOST_FLOWS;
        }

        int flowsOn() {
            int on = 0;
            for (int i = 0; i < flowCount && i < MOST_FLOWS; i++) {
                if (flows[i].on) {
                    on++;
                }
            }
            return on;
        }

        long total(int flow, int what) {
            if (what < 0 || what >= ACCOUNTS) {
                return 0;
            }
            if (hasFlow(flow)) {
                return flows[flow].accounts[what];
            }
            long sum = 0;
            for (int i = 0; i < flowCount && i < MOST_FLOWS; i++) {
                sum += flows[i].accounts[what];
            }
            return sum;
        }

        long dropped() {
            long sum = 0;
            for (int i = 0; i < flowCount && i < MOST_FLOWS; i++) {
                sum += flows[i].drops();
            }
            return sum;
        }

        int averageAfter(int packets, int before) {
            return before + ((UNIT * packets - before) >> weight);
        }

        int wayAt(int packets, int reached) {
            if (packets >= limit) {
                return FULL;
            }
            if (reached < UNIT * min) {
                return BELOW;
            }
            return reached >= UNIT * max * (gentle + 1) ? ABOVE : BETWEEN;
        }

        int baseAt(int reached) {
            long low = (long) UNIT * min;
            long high = (long) UNIT * max;
            if (reached < low || high <= low) {
                return 0;
            }
            if (reached < high) {
                return (int) (top * (reached - low) / (high - low));
            }
            if (reached >= high * (gentle + 1)) {
                return WHOLE;
            }
            return (int) (top + (WHOLE - top) * (reached - high) / high);
        }

        static int chanceAt(int way, int base, int counted) {
            if (way != BETWEEN) {
                return way == BELOW ? 0 : WHOLE;
            }
            // a long, since a COUNT that no draw ends grows large
            long rest = WHOLE - (long) counted * base;
            if (rest <= 0) {
                return WHOLE;
            }
            long chance = (long) WHOLE * base / rest;
            return chance < WHOLE ? (int) chance : WHOLE;
        }

        private int draw() {
            x = x * 1103515245 + 12345;
            return (x >>> 15) % WHOLE;
        }

        private int outcomeOf(int way, int flow, int drawn, int chance) {
            if (way == BELOW || (way == BETWEEN && drawn >= chance)) {
                return LET_IN;
            }
            return way == BETWEEN && flows[flow].marks ? MARKED : DROPPED;
        }

        private int arrive(int flow) {
            average = averageAfter(queue.length, average);
            int way = wayAt(queue.length, average);
            if (!early && way != FULL) {
                way = BELOW;
            }
            int counted = way == BETWEEN ? count + 1 : 0;
            int chance = chanceAt(way, baseAt(average), counted);
            int drawn = way == BETWEEN ? draw() : NONE;
            int outcome = outcomeOf(way, flow, drawn, chance);
            count = way == BELOW ? NONE : outcome == LET_IN ? counted : 0;
            if (outcome != DROPPED) {
                queue.add(flow, time, outcome == MARKED ? 1 : 0);
            }
            flows[flow].countArrival(way, outcome);
            decisions.open(time, flow, way, average);
            decisions.close(counted, chance, drawn, outcome);
            return outcome;
        }

        int arriveAll(int flow, int packets) {
            int letIn = 0;
            for (int sent = 0; sent < packets && hasFlow(flow); sent++) {
                if (arrive(flow) != DROPPED) {
                    letIn++;
                }
            }
            return letIn;
        }

        void passTick() {
            time++;
            for (int i = 0; i < flowCount && i < MOST_FLOWS; i++) {
                if (flows[i].sendsAt(time)) {
                    flows[i].adapt();
                    for (int sent = 0; sent < flows[i].window; sent++) {
                        arrive(i);
                    }
                }
            }
            letLeave(Math.min(rate, queue.length));
            if (queue.length == 0) {
                average -= average >> weight;
            }
        }

        private void letLeave(int packets) {
            for (int k = 0; k < packets; k++) {
                int flow = queue.cell(k, 0);
                if (hasFlow(flow)) {
                    flows[flow].countLeaving(time - queue.cell(k, 1), queue.cell(k, 2));
                }
            }
            queue.removeFirst(packets);
        }

        int passTicks(int ticks) {
            if (time + ticks > LAST_TIME) {
                return TIME_OVER;
            }
            for (int passed = 0; passed < ticks; passed++) {
                passTick();
            }
            return time;
        }

        int changeLimits(int newMin, int newMax) {
            int before = 100 * min + max;
            min = newMin;
            max = newMax;
            return before;
        }

        int changeTop(int newTop) {
            int before = top;
            top = newTop;
            return before;
        }

        int changeWeight(int newWeight) {
            int before = weight;
            weight = newWeight;
            return before;
        }

        int changeGentle(int newGentle) {
            int before = gentle;
            gentle = newGentle;
            return before;
        }

        int changeOn(int flow, boolean on) {
            if (!hasFlow(flow) || flows[flow].on == on) {
                return SO_ALREADY;
            }
            flows[flow].on = on;
            return flowsOn();
        }
    }

    /** The states ahead of the latest changes, in a ring: the oldest one makes room. */
    private static final class Past {
        final Router[] places = new Router[MOST_UNDOS];
        int next;
        int kept;

        Past() {
            for (int i = 0; i < places.length; i++) {
                places[i] = new Router();
            }
        }

        void forget() {
            kept = 0;
        }

        void keep(Router now) {
            if (next < 0 || next >= places.length) {
                return;
            }
            places[next].copyFrom(now);
            next = (next + 1) % MOST_UNDOS;
            kept = Math.min(kept + 1, MOST_UNDOS);
        }

        boolean takeBack(Router now) {
            int latest = (next + MOST_UNDOS - 1) % MOST_UNDOS;
            if (kept < 1 || latest < 0 || latest >= places.length) {
                return false;
            }
            now.copyFrom(places[latest]);
            next = latest;
            kept--;
            return true;
        }
    }

    /** The buffer and its tokens. The first error stays: behind it nothing is read, and numbers are the lowest allowed. */
    private static final class Reader {
        private static final int MOST_DIGITS = 6;
        private static final int END = 0;
        private static final int WORD = 1;
        private static final int NUMBER = 2;
        private static final int SEMICOLON = 3;
        private static final int OPEN = 4;
        private static final int CLOSE = 5;
        private static final int INVALID = 6;

        final int[] bytes = new int[MOST_BYTES];
        int length;
        int kind;
        int start;
        int end;
        int error;
        int errorAt = NONE;

        static int bytesOf(int packed) {
            int count = 0;
            for (int shift = 24; shift >= 0; shift -= 8) {
                if (((packed >>> shift) & 255) != 0) {
                    count++;
                }
            }
            return count;
        }

        void take(int packed) {
            for (int shift = 24; shift >= 0; shift -= 8) {
                int one = (packed >>> shift) & 255;
                if (one != 0 && length >= 0 && length < bytes.length) {
                    bytes[length] = one;
                    length++;
                }
            }
        }

        void empty() {
            length = 0;
        }

        void begin() {
            error = 0;
            errorAt = NONE;
            end = 0;
            advance();
        }

        void fail(int code) {
            if (error == 0) {
                error = code;
                errorAt = start;
            }
        }

        void advance() {
            int at = end;
            while (at < length && isBlank(byteAt(at))) {
                at++;
            }
            start = at;
            kind = kindAt(at);
            if (at < length) {
                at++;
            }
            while (at < length && (kind == WORD || kind == NUMBER) && kindAt(at) == kind) {
                at++;
            }
            end = at;
        }

        private int byteAt(int i) {
            return i >= 0 && i < length && i < bytes.length ? bytes[i] : 0;
        }

        private static boolean isBlank(int one) {
            return one == 32 || one == 10;
        }

        private int kindAt(int i) {
            if (i < 0 || i >= length || i >= bytes.length) {
                return END;
            }
            int one = bytes[i];
            if (one >= 'a' && one <= 'z') {
                return WORD;
            }
            if (one >= '0' && one <= '9') {
                return NUMBER;
            }
            return one == ';' ? SEMICOLON : one == '(' ? OPEN : one == ')' ? CLOSE : INVALID;
        }

        boolean isWord(String text) {
            if (kind != WORD || end - start != text.length()) {
                return false;
            }
            for (int i = 0; i < text.length(); i++) {
                if (byteAt(start + i) != text.charAt(i)) {
                    return false;
                }
            }
            return true;
        }

        void expect(int wanted) {
            if (kind != wanted) {
                fail(NOT_ALLOWED);
            }
            if (error == 0) {
                advance();
            }
        }

        int number(int lowest, int highest) {
            if (kind != NUMBER) {
                fail(NOT_ALLOWED);
            }
            if (error != 0) {
                return lowest;
            }
            int value = value();
            if (value < lowest || value > highest) {
                fail(OUT_OF_RANGE);
                return lowest;
            }
            advance();
            return value;
        }

        private int value() {
            if (end - start > MOST_DIGITS) {
                return NONE;
            }
            int value = 0;
            for (int i = start; i < end; i++) {
                value = 10 * value + byteAt(i) - '0';
            }
            return value;
        }

        boolean isName() {
            return kind == WORD && end - start <= MOST_LETTERS;
        }

        /** The number of the flow that the token names; NONE if there is no such flow. */
        int flowNamed(Router router) {
            for (int i = 0; i < router.flowCount && i < MOST_FLOWS; i++) {
                if (isWord(router.flows[i].name)) {
                    return i;
                }
            }
            return NONE;
        }

        String word() {
            int letters = end - start;
            if (letters < 0 || letters > MOST_LETTERS) {
                return "";
            }
            char[] word = new char[letters];
            for (int i = 0; i < word.length; i++) {
                word[i] = (char) byteAt(start + i);
            }
            return new String(word);
        }
    }

    /** Reads a setup into a router of its own, so that an error leaves the one in use alone. */
    private static final class Setup {
        private static final int LIMITS = 1;
        private static final int TOP = 2;
        private static final int WEIGHT = 4;
        private static final int GENTLE = 8;
        private static final int SEED = 16;

        final Reader in;
        final Router router = new Router();
        int told;

        Setup(Reader in) {
            this.in = in;
        }

        boolean readAll() {
            told = 0;
            router.begin();
            in.begin();
            if (!in.isWord("router")) {
                in.fail(NOT_ALLOWED);
            }
            in.expect(Reader.WORD);
            router.limit = in.number(1, MOST_PACKETS);
            router.rate = in.number(1, 9);
            for (int i = 0; i < MOST_BYTES && in.error == 0 && in.kind != Reader.END; i++) {
                in.expect(Reader.SEMICOLON);
                readStatement();
            }
            return in.error == 0;
        }

        private void readStatement() {
            if (in.isWord("limits")) {
                readOnce(LIMITS);
                router.min = in.number(0, HIGHEST_MIN);
                router.max = in.number(router.min + 1, HIGHEST_MAX);
            } else if (in.isWord("top")) {
                readOnce(TOP);
                router.top = in.number(0, WHOLE);
            } else if (in.isWord("weight")) {
                readOnce(WEIGHT);
                router.weight = in.number(0, HIGHEST_WEIGHT);
            } else if (in.isWord("gentle")) {
                readOnce(GENTLE);
                router.gentle = in.number(0, 1);
            } else if (in.isWord("seed")) {
                readOnce(SEED);
                router.x = in.number(0, 9999);
            } else if (in.isWord("flow")) {
                readFlow();
            } else {
                in.fail(NOT_ALLOWED);
            }
        }

        private void readOnce(int word) {
            if ((told & word) != 0) {
                in.fail(TOLD_TWICE);
            }
            told |= word;
            in.expect(Reader.WORD);
        }

        private void readFlow() {
            int place = router.flowCount;
            if (place < 0 || place >= MOST_FLOWS) {
                in.fail(TOO_MANY);
                return;
            }
            Flow flow = router.flows[place];
            in.expect(Reader.WORD);
            flow.name = newName();
            in.expect(Reader.WORD);
            flow.first = in.number(1, 99);
            flow.period = in.number(1, 50);
            flow.start = in.number(1, 9);
            flow.cap = in.number(flow.start, 9);
            flow.marks = in.isWord("marks");
            if (flow.marks) {
                in.expect(Reader.WORD);
            }
            flow.begin();
            router.flowCount++;
        }

        private String newName() {
            if (!in.isName()) {
                in.fail(NOT_ALLOWED);
            } else if (in.flowNamed(router) != NONE) {
                in.fail(TOLD_TWICE);
            }
            return in.word();
        }
    }

    /** A script as rows of orders; a bracket is an AGAIN ahead of its orders and a BACK behind them. */
    private static final class Script {
        private static final int MOST_TOLD = 30;
        private static final int MOST_DONE = 40;
        private static final int MOST_DEPTH = 2;
        private static final int MOST_STEPS = 1000000;

        private static final int TICK = 0;
        private static final int SEND = 1;
        private static final int LIMITS = 2;
        private static final int TOP = 3;
        private static final int WEIGHT = 4;
        private static final int GENTLE = 5;
        private static final int STOP = 6;
        private static final int START = 7;
        private static final int AGAIN = 8;
        private static final int BACK = 9;

        final Reader in;
        final Router router;
        // an AGAIN can have a BACK: so twice as many rows as orders
        final int[] orders = new int[2 * MOST_TOLD];
        final int[] firsts = new int[2 * MOST_TOLD];
        final int[] seconds = new int[2 * MOST_TOLD];
        final int[] rounds = new int[2 * MOST_TOLD];
        final int[] opened = new int[MOST_DEPTH];
        int length;
        int told;
        int depth;

        Script(Reader in, Router router) {
            this.in = in;
            this.router = router;
        }

        boolean readAll() {
            length = 0;
            told = 0;
            depth = 0;
            in.begin();
            for (int i = 0; i <= MOST_BYTES && in.error == 0; i++) {
                if (in.kind == Reader.END && depth == 0) {
                    return true;
                }
                if (in.kind == Reader.CLOSE && depth > 0) {
                    closeBracket();
                } else {
                    readOrder();
                }
            }
            return in.error == 0;
        }

        private int orderTold() {
            return in.isWord("tick") ? TICK
                : in.isWord("send") ? SEND
                : in.isWord("limits") ? LIMITS
                : in.isWord("top") ? TOP
                : in.isWord("weight") ? WEIGHT
                : in.isWord("gentle") ? GENTLE
                : in.isWord("stop") ? STOP
                : in.isWord("start") ? START
                : in.isWord("again") ? AGAIN : NONE;
        }

        private void readOrder() {
            int order = orderTold();
            if (order == NONE) {
                in.fail(NOT_ALLOWED);
            } else if (told >= MOST_TOLD) {
                in.fail(TOO_MANY);
            }
            told++;
            in.expect(Reader.WORD);
            int first = 0;
            int second = 0;
            switch (order) {
                case TICK: first = in.number(1, MOST_TICKS); break;
                case SEND: first = readFlow(); second = in.number(1, MOST_PACKETS); break;
                case LIMITS: first = in.number(0, HIGHEST_MIN); second = in.number(first + 1, HIGHEST_MAX); break;
                case TOP: first = in.number(0, WHOLE); break;
                case WEIGHT: first = in.number(0, HIGHEST_WEIGHT); break;
                case GENTLE: first = in.number(0, 1); break;
                case AGAIN: first = in.number(0, 20); openBracket(); break;
                default: first = readFlow(); break;
            }
            addRow(order, first, second);
            if (order != AGAIN) {
                in.expect(Reader.SEMICOLON);
            }
        }

        private int readFlow() {
            int flow = in.flowNamed(router);
            if (!in.isName()) {
                in.fail(NOT_ALLOWED);
            } else if (flow == NONE) {
                in.fail(NO_SUCH_FLOW);
            }
            in.expect(Reader.WORD);
            return flow;
        }

        private void openBracket() {
            if (in.kind == Reader.OPEN && depth >= MOST_DEPTH) {
                in.fail(TOO_MANY);
            }
            in.expect(Reader.OPEN);
            if (depth >= 0 && depth < opened.length) {
                opened[depth] = length;
                depth++;
            }
        }

        private void closeBracket() {
            in.expect(Reader.CLOSE);
            in.expect(Reader.SEMICOLON);
            depth--;
            if (depth < 0 || depth >= opened.length) {
                return;
            }
            int again = opened[depth];
            addRow(BACK, again, 0);
            if (again >= 0 && again < seconds.length) {
                seconds[again] = length;
            }
        }

        private void addRow(int order, int first, int second) {
            if (length < 0 || length >= orders.length) {
                return;
            }
            orders[length] = order;
            firsts[length] = first;
            seconds[length] = second;
            length++;
        }

        /** Does the script that was read; answers how many orders were done. */
        int perform() {
            int done = 0;
            int row = 0;
            for (int step = 0; step < MOST_STEPS && row >= 0 && row < length && done < MOST_DONE; step++) {
                if (orders[row] == AGAIN || orders[row] == BACK) {
                    row = rowBehind(row);
                } else if (doOrder(row) < 0) {
                    return done;
                } else {
                    done++;
                    row++;
                }
            }
            return done;
        }

        private int rowBehind(int row) {
            if (orders[row] == AGAIN) {
                rounds[row] = firsts[row];
                return rounds[row] > 0 ? row + 1 : seconds[row];
            }
            int again = firsts[row];
            if (again < 0 || again >= rounds.length) {
                return row + 1;
            }
            rounds[again]--;
            return rounds[again] > 0 ? again + 1 : row + 1;
        }

        private int doOrder(int row) {
            int first = firsts[row];
            int second = seconds[row];
            switch (orders[row]) {
                case TICK: return router.passTicks(first);
                case SEND: return router.arriveAll(first, second);
                case LIMITS: return router.changeLimits(first, second);
                case TOP: return router.changeTop(first);
                case WEIGHT: return router.changeWeight(first);
                case GENTLE: return router.changeGentle(first);
                default: return router.changeOn(first, orders[row] == START);
            }
        }
    }
}
