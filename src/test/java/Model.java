import java.math.BigInteger;
import java.util.ArrayDeque;
import java.util.ArrayList;
import java.util.Arrays;
import java.util.LinkedHashMap;
import java.util.List;
import java.util.Map;

/**
 * The document once more, written apart from the class and without its bounds on library and memory,
 * so that ModelTest can compare the two over many runs of calls.
 */
final class Model {
    static final class Source {
        String name;
        int first, period, start, cap, window, sendings;
        boolean marks, on = true, told;
        final Map<Integer, Long> accounts = new LinkedHashMap<>();

        Source copy() {
            Source c = new Source();
            c.name = name;
            c.first = first;
            c.period = period;
            c.start = start;
            c.cap = cap;
            c.window = window;
            c.sendings = sendings;
            c.marks = marks;
            c.on = on;
            c.told = told;
            c.accounts.putAll(accounts);
            return c;
        }

        void count(int what, long by) {
            accounts.merge(what, by, Long::sum);
        }

        long told(int what) {
            return accounts.getOrDefault(what, 0L);
        }

        long drops() {
            return told(2) + told(3) + told(4);
        }
    }

    static final class World {
        int limit = 20, rate = 1, min = 5, max = 15, top = 6554, weight = 4, gentle = 0;
        int time, average, count = -1, x = 1;
        boolean early = true;
        List<Source> flows = new ArrayList<>();
        List<int[]> queue = new ArrayList<>();
        List<int[]> decisions = new ArrayList<>();

        World copy() {
            World c = new World();
            c.limit = limit;
            c.rate = rate;
            c.min = min;
            c.max = max;
            c.top = top;
            c.weight = weight;
            c.gentle = gentle;
            c.time = time;
            c.average = average;
            c.count = count;
            c.x = x;
            for (Source s : flows) {
                c.flows.add(s.copy());
            }
            c.queue.addAll(queue);
            c.decisions.addAll(decisions);
            return c;
        }

        int low() {
            return 1024 * min;
        }

        int high() {
            return 1024 * max;
        }

        static int averageBy(int average, int packets, int weight) {
            return average + Math.floorDiv(1024 * packets - average, 1 << weight);
        }

        int way(int packets, int average) {
            if (packets >= limit) return 0;
            if (average < low()) return 1;
            if (average >= (gentle == 1 ? 2 * high() : high())) return 2;
            return 3;
        }

        int base(int average) {
            if (average < low()) return 0;
            if (average >= (gentle == 1 ? 2 * high() : high())) return 65536;
            BigInteger over = BigInteger.valueOf(average - (average < high() ? low() : high()));
            if (average < high()) {
                return over.multiply(BigInteger.valueOf(top)).divide(BigInteger.valueOf(high() - low())).intValueExact();
            }
            return top + over.multiply(BigInteger.valueOf(65536 - top)).divide(BigInteger.valueOf(high())).intValueExact();
        }

        static int chance(int base, int count) {
            BigInteger product = BigInteger.valueOf(count).multiply(BigInteger.valueOf(base));
            BigInteger whole = BigInteger.valueOf(65536);
            if (product.compareTo(whole) >= 0) return 65536;
            return whole.multiply(BigInteger.valueOf(base)).divide(whole.subtract(product)).min(whole).intValueExact();
        }

        int draw() {
            long next = (x * 1103515245L + 12345L) & 0xffffffffL;
            x = (int) next;
            return (int) ((next >> 15) & 0xffff);
        }

        boolean arrive(int number) {
            Source flow = flows.get(number);
            flow.count(0, 1);
            average = averageBy(average, queue.size(), weight);
            int way = way(queue.size(), average);
            int[] row = {time, number, way, average, 0, 0, -1, 0};
            if (!early) {
                if (way == 0) {
                    flow.count(4, 1);
                    flow.told = true;
                    return false;
                }
                queue.add(new int[] {number, time, 0});
                return true;
            }
            if (way == 0 || way == 2) {
                row[5] = 65536;
                row[7] = 2;
                flow.count(way == 0 ? 4 : 3, 1);
                flow.told = true;
                count = 0;
            } else if (way == 1) {
                count = -1;
                queue.add(new int[] {number, time, 0});
            } else {
                count++;
                row[4] = count;
                row[5] = chance(base(average), count);
                row[6] = draw();
                if (row[6] < row[5]) {
                    count = 0;
                    flow.told = true;
                    if (flow.marks) {
                        row[7] = 1;
                        flow.count(1, 1);
                        queue.add(new int[] {number, time, 1});
                    } else {
                        row[7] = 2;
                        flow.count(2, 1);
                    }
                } else {
                    queue.add(new int[] {number, time, 0});
                }
            }
            decisions.add(0, row);
            while (decisions.size() > 24) decisions.remove(24);
            return row[7] != 2;
        }

        static int untilNext(Source s, int time) {
            int at = s.first;
            while (at <= time) at += s.period;
            return at - time;
        }

        void step() {
            for (int i = 0; i < flows.size(); i++) {
                Source s = flows.get(i);
                // asked one tick ahead, so that the sending is due with the time that comes
                if (s.on && untilNext(s, time) == 1) {
                    // the time grows first; what arrives bears the new one
                    time++;
                    if (s.sendings != 0) {
                        if (s.told) s.window = s.window == 1 ? 1 : s.window >> 1;
                        else if (s.window < s.cap) s.window++;
                    }
                    s.told = false;
                    s.sendings++;
                    int packets = s.window;
                    while (packets-- > 0) arrive(i);
                    time--;
                }
            }
            time++;
            for (int k = 0; k < rate && !queue.isEmpty(); k++) {
                int[] packet = queue.remove(0);
                Source s = flows.get(packet[0]);
                s.count(5, 1);
                if (packet[2] == 1) s.count(6, 1);
                s.count(7, time - packet[1]);
            }
            if (queue.isEmpty()) average = average - average / (1 << weight);
        }

        World after(int ticks) {
            World c = copy();
            for (int t = 0; t < ticks; t++) c.step();
            return c;
        }

        long account(int flow, int what) {
            if (flow >= 0) return flows.get(flow).told(what);
            return flows.stream().mapToLong(s -> s.told(what)).sum();
        }

        long drops() {
            return flows.stream().mapToLong(Source::drops).sum();
        }

        // the changes; a negative answer is an error code, and nothing has changed then
        int tick(int ticks) {
            if (time + ticks > 9999) return -2;
            for (int t = 0; t < ticks; t++) step();
            return time;
        }

        int send(int flow, int packets) {
            int in = 0;
            for (int k = 0; k < packets; k++) if (arrive(flow)) in++;
            return in;
        }

        int on(int flow, boolean on) {
            if (flows.get(flow).on == on) return -3;
            flows.get(flow).on = on;
            return (int) flows.stream().filter(s -> s.on).count();
        }
    }

    static final class Wrong extends Exception {
        final int code, at;

        Wrong(int code, int at) {
            this.code = code;
            this.at = at;
        }
    }

    /** A token: its sign (w, n, the sign itself, ? for an invalid one, . for the end), its text, its place. */
    record Token(char sign, String text, int at) {
    }

    static List<Token> tokens(List<Integer> bytes) {
        List<Token> found = new ArrayList<>();
        int at = 0;
        while (at < bytes.size()) {
            int b = bytes.get(at);
            int from = at++;
            if (b == 32 || b == 10) continue;
            char sign = sign(b);
            StringBuilder word = new StringBuilder().append((char) b);
            if (sign == 'w' || sign == 'n') {
                while (at < bytes.size() && sign(bytes.get(at)) == sign) word.append((char) (int) bytes.get(at++));
            }
            found.add(new Token(sign, word.toString(), from));
        }
        found.add(new Token('.', "", bytes.size()));
        return found;
    }

    static char sign(int b) {
        if (b >= 97 && b <= 122) return 'w';
        if (b >= 48 && b <= 57) return 'n';
        return b == 59 || b == 40 || b == 41 ? (char) b : '?';
    }

    /** An order: what it is, with its parameters; "again" with its orders. */
    static final class Order {
        String word;
        int a, b;
        List<Order> inside;
    }

    static final class Parser {
        final ArrayDeque<Token> tokens;
        int orders;

        Parser(List<Integer> bytes) {
            tokens = new ArrayDeque<>(tokens(bytes));
        }

        Token peek() {
            return tokens.peek();
        }

        Token take(char sign) throws Wrong {
            if (peek().sign != sign) throw new Wrong(1, peek().at);
            return tokens.poll();
        }

        int number(int from, int to) throws Wrong {
            Token t = take('n');
            if (t.text.length() > 6 || Integer.parseInt(t.text) < from || Integer.parseInt(t.text) > to) {
                throw new Wrong(2, t.at);
            }
            return Integer.parseInt(t.text);
        }

        Token name() throws Wrong {
            Token t = take('w');
            if (t.text.length() > 8) throw new Wrong(1, t.at);
            return t;
        }

        World setup() throws Wrong {
            World w = new World();
            Token head = take('w');
            if (!head.text.equals("router")) throw new Wrong(1, head.at);
            w.limit = number(1, 40);
            w.rate = number(1, 9);
            List<String> seen = new ArrayList<>();
            while (peek().sign != '.') {
                take(';');
                Token t = take('w');
                if (!List.of("limits", "top", "weight", "gentle", "seed", "flow").contains(t.text)) throw new Wrong(1, t.at);
                if (seen.contains(t.text) && !t.text.equals("flow")) throw new Wrong(3, t.at);
                seen.add(t.text);
                switch (t.text) {
                    case "limits" -> {
                        w.min = number(0, 39);
                        w.max = number(w.min + 1, 40);
                    }
                    case "top" -> w.top = number(0, 65536);
                    case "weight" -> w.weight = number(0, 10);
                    case "gentle" -> w.gentle = number(0, 1);
                    case "seed" -> w.x = number(0, 9999);
                    default -> flow(w, t);
                }
            }
            return w;
        }

        void flow(World w, Token t) throws Wrong {
            if (w.flows.size() == 6) throw new Wrong(5, t.at);
            Token name = name();
            for (Source s : w.flows) if (s.name.equals(name.text)) throw new Wrong(3, name.at);
            Source s = new Source();
            s.name = name.text;
            s.first = number(1, 99);
            s.period = number(1, 50);
            s.start = number(1, 9);
            s.cap = number(s.start, 9);
            s.window = s.start;
            if (peek().text.equals("marks")) {
                take('w');
                s.marks = true;
            }
            w.flows.add(s);
        }

        int flowOf(World w) throws Wrong {
            Token t = name();
            for (int i = 0; i < w.flows.size(); i++) if (w.flows.get(i).name.equals(t.text)) return i;
            throw new Wrong(4, t.at);
        }

        List<Order> script(World w, int depth) throws Wrong {
            List<Order> list = new ArrayList<>();
            while (peek().sign == 'w') {
                Token t = take('w');
                Order o = new Order();
                o.word = t.text;
                if (!List.of("tick", "send", "limits", "top", "weight", "gentle", "stop", "start", "again").contains(t.text)) {
                    throw new Wrong(1, t.at);
                }
                if (++orders > 30) throw new Wrong(5, t.at);
                switch (t.text) {
                    case "tick" -> o.a = number(1, 50);
                    case "send" -> {
                        o.a = flowOf(w);
                        o.b = number(1, 40);
                    }
                    case "limits" -> {
                        o.a = number(0, 39);
                        o.b = number(o.a + 1, 40);
                    }
                    case "top" -> o.a = number(0, 65536);
                    case "weight" -> o.a = number(0, 10);
                    case "gentle" -> o.a = number(0, 1);
                    case "again" -> {
                        o.a = number(0, 20);
                        Token bracket = take('(');
                        if (depth == 2) throw new Wrong(5, bracket.at);
                        o.inside = script(w, depth + 1);
                        take(')');
                    }
                    default -> o.a = flowOf(w);
                }
                take(';');
                list.add(o);
            }
            return list;
        }
    }

    private World world = new World();
    private final List<Integer> buffer = new ArrayList<>();
    private final ArrayDeque<World> past = new ArrayDeque<>();
    private final World[] saved = new World[2];
    private int errorAt = -1;
    private String written = "";

    private static void index(boolean fine) {
        if (!fine) throw new IndexOutOfBoundsException();
    }

    private static void within(int v, int from, int to) {
        if (v < from || v > to) throw new IllegalArgumentException();
    }

    private void flowOrAll(int flow) {
        index(flow >= -1 && flow < world.flows.size());
    }

    private void record() {
        past.push(world.copy());
        while (past.size() > 8) past.removeLast();
    }

    public int feed(int a, int b, int c, int d, int e) {
        List<Integer> more = new ArrayList<>();
        for (int v : new int[] {a, b, c, d, e}) {
            for (int one : new int[] {v >>> 24, v >>> 16 & 255, v >>> 8 & 255, v & 255}) if (one != 0) more.add(one);
        }
        if (buffer.size() + more.size() > 500) return -1;
        buffer.addAll(more);
        return buffer.size();
    }

    public int load() {
        List<Integer> text = new ArrayList<>(buffer);
        buffer.clear();
        try {
            world = new Parser(text).setup();
            errorAt = -1;
            past.clear();
            Arrays.fill(saved, null);
            return world.flows.size();
        } catch (Wrong w) {
            errorAt = w.at;
            return -10 - w.code;
        }
    }

    private int done;

    private boolean perform(List<Order> orders) {
        for (Order o : orders) {
            if (o.word.equals("again")) {
                for (int t = 0; t < o.a; t++) if (!perform(o.inside)) return false;
                continue;
            }
            int answer = 0;
            switch (o.word) {
                case "tick" -> answer = world.tick(o.a);
                case "send" -> answer = world.send(o.a, o.b);
                case "limits" -> {
                    world.min = o.a;
                    world.max = o.b;
                }
                case "top" -> world.top = o.a;
                case "weight" -> world.weight = o.a;
                case "gentle" -> world.gentle = o.a;
                case "stop" -> answer = world.on(o.a, false);
                default -> answer = world.on(o.a, true);
            }
            if (answer < 0) return false;
            if (++done == 40) return false;
        }
        return true;
    }

    public int run() {
        List<Integer> text = new ArrayList<>(buffer);
        buffer.clear();
        try {
            Parser p = new Parser(text);
            List<Order> orders = p.script(world, 0);
            p.take('.');
            errorAt = -1;
            record();
            done = 0;
            perform(orders);
            return done;
        } catch (Wrong w) {
            errorAt = w.at;
            return -10 - w.code;
        }
    }

    public int errorPosition() {
        return errorAt;
    }

    public int size(int what) {
        within(what, 0, 14);
        World w = world;
        int on = 0;
        for (Source s : w.flows) if (s.on) on++;
        return new int[] {w.limit, w.rate, w.min, w.max, w.top, w.weight, w.gentle, w.time, w.queue.size(), w.average,
            w.count, w.flows.size(), on, w.decisions.size(), past.size()}[what];
    }

    public int flow(int flow, int what) {
        index(flow >= 0 && flow < world.flows.size());
        within(what, 0, 10);
        Source s = world.flows.get(flow);
        int waiting = (int) world.queue.stream().filter(p -> p[0] == flow).count();
        return new int[] {s.first, s.period, s.start, s.cap, s.marks ? 1 : 0, s.on ? 1 : 0, s.window, s.told ? 1 : 0,
            waiting, World.untilNext(s, world.time), s.sendings}[what];
    }

    public int letter(int flow, int i) {
        index(flow >= 0 && flow < world.flows.size());
        String name = world.flows.get(flow).name;
        return i < 0 || i >= name.length() ? -1 : name.charAt(i);
    }

    public int packet(int k, int what) {
        index(k >= 0 && k < world.queue.size());
        within(what, 0, 2);
        return world.queue.get(k)[what];
    }

    public long account(int flow, int what) {
        flowOrAll(flow);
        within(what, 0, 7);
        return world.account(flow, what);
    }

    public int decision(int k, int what) {
        index(k >= 0 && k < world.decisions.size());
        within(what, 0, 7);
        return world.decisions.get(k)[what];
    }

    public int amiss() {
        return 0;
    }

    public double average() {
        return world.average / 1024.0;
    }

    public float lossShare() {
        long arrived = world.account(-1, 0);
        return arrived == 0 ? 0f : (float) world.drops() / arrived;
    }

    public double fairness() {
        double sum = 0, squares = 0;
        for (Source s : world.flows) {
            sum += s.told(5);
            squares += (double) s.told(5) * s.told(5);
        }
        return sum == 0 ? 1.0 : sum * sum / (world.flows.size() * squares);
    }

    public double meanWait(int flow) {
        flowOrAll(flow);
        long left = world.account(flow, 5);
        return left == 0 ? 0.0 : (double) world.account(flow, 7) / left;
    }

    public int base(int average) {
        within(average, 0, 99999);
        return world.base(average);
    }

    public int chance(int average, int count) {
        within(average, 0, 99999);
        within(count, 0, 9999);
        return World.chance(world.base(average), count);
    }

    private int[] ofNext(int packets, int average, int count) {
        int reached = World.averageBy(average, packets, world.weight);
        int way = world.way(packets, reached);
        int chance = way == 1 ? 0 : way == 3 ? World.chance(world.base(reached), count + 1) : 65536;
        return new int[] {way, chance, reached, way == 3 ? count + 1 : -1};
    }

    public int next() {
        return ofNext(world.queue.size(), world.average, world.count)[0];
    }

    public int nextChance() {
        return ofNext(world.queue.size(), world.average, world.count)[1];
    }

    public double burst(int packets) {
        within(packets, 1, 60);
        double p = 1.0;
        int average = world.average, count = world.count;
        for (int k = 0; k < packets; k++) {
            int[] of = ofNext(world.queue.size() + k, average, count);
            p = p * ((65536 - of[1]) / 65536.0);
            average = of[2];
            count = of[3];
        }
        return p;
    }

    public int sureBurst(int percent) {
        within(percent, 1, 100);
        for (int k = 60; k > 0; k--) if (burst(k) >= percent / 100.0) return k;
        return 0;
    }

    public long accountIn(int flow, int what, int ticks) {
        flowOrAll(flow);
        within(what, 0, 7);
        within(ticks, 0, 200);
        return world.after(ticks).account(flow, what) - world.account(flow, what);
    }

    public int queueIn(int ticks) {
        within(ticks, 0, 200);
        return world.after(ticks).queue.size();
    }

    public int averageIn(int ticks) {
        within(ticks, 0, 200);
        return world.after(ticks).average;
    }

    public int windowIn(int flow, int ticks) {
        index(flow >= 0 && flow < world.flows.size());
        within(ticks, 0, 200);
        return world.after(ticks).flows.get(flow).window;
    }

    public int longest(int ticks) {
        within(ticks, 1, 200);
        World w = world.copy();
        int most = 0;
        for (int t = 0; t < ticks; t++) {
            w.step();
            if (w.queue.size() > most) most = w.queue.size();
        }
        return most;
    }

    public int dropIn() {
        World w = world.copy();
        for (int t = 1; t <= 200; t++) {
            w.step();
            if (w.drops() != world.drops()) return t;
        }
        return -1;
    }

    public int bestWeight(int ticks) {
        within(ticks, 1, 100);
        int best = -1;
        long fewest = 0;
        for (int v = 10; v >= 0; v--) {
            World w = world.copy();
            w.weight = v;
            long drops = w.after(ticks).drops();
            if (best < 0 || drops <= fewest) {
                best = v;
                fewest = drops;
            }
        }
        return best;
    }

    public int bestTop(int ticks) {
        within(ticks, 1, 100);
        int best = -1;
        long fewest = 0;
        for (int v = 65536; v >= 0; v -= 4096) {
            World w = world.copy();
            w.top = v;
            long drops = w.after(ticks).drops();
            if (best < 0 || drops <= fewest) {
                best = v;
                fewest = drops;
            }
        }
        return best;
    }

    public long gain(int ticks) {
        within(ticks, 1, 200);
        World w = world.copy();
        w.early = false;
        for (int t = 0; t < ticks; t++) w.step();
        return w.drops() - world.after(ticks).drops();
    }

    public int tick(int ticks) {
        within(ticks, 1, 50);
        if (world.time + ticks > 9999) return -2;
        record();
        return world.tick(ticks);
    }

    public int send(int flow, int packets) {
        index(flow >= 0 && flow < world.flows.size());
        within(packets, 1, 40);
        record();
        return world.send(flow, packets);
    }

    public int setLimits(int min, int max) {
        within(min, 0, 39);
        within(max, min + 1, 40);
        record();
        int before = 100 * world.min + world.max;
        world.min = min;
        world.max = max;
        return before;
    }

    public int setTop(int top) {
        within(top, 0, 65536);
        record();
        int before = world.top;
        world.top = top;
        return before;
    }

    public int setWeight(int weight) {
        within(weight, 0, 10);
        record();
        int before = world.weight;
        world.weight = weight;
        return before;
    }

    public int setGentle(int gentle) {
        within(gentle, 0, 1);
        record();
        int before = world.gentle;
        world.gentle = gentle;
        return before;
    }

    public int setOn(int flow, boolean on) {
        index(flow >= 0 && flow < world.flows.size());
        if (world.flows.get(flow).on == on) return -3;
        record();
        return world.on(flow, on);
    }

    public int report() {
        List<String> parts = new ArrayList<>();
        for (Source s : world.flows) parts.add(s.name + ":" + s.told(0) + "/" + s.told(5) + (s.told ? "!" : ""));
        StringBuilder waiting = new StringBuilder("|");
        for (int[] p : world.queue) waiting.append(p[0]).append(p[2] == 1 ? "*" : "");
        parts.add(waiting.toString());
        written = String.join(" ", parts);
        return written.length();
    }

    public int reportByte(int i) {
        return i < 0 || i >= written.length() ? -1 : written.charAt(i);
    }

    public int undo() {
        if (past.isEmpty()) return -1;
        world = past.pop();
        return past.size();
    }

    public int save(int slot) {
        within(slot, 0, 1);
        saved[slot] = world.copy();
        return world.time;
    }

    public int restore(int slot) {
        within(slot, 0, 1);
        if (saved[slot] == null) return -1;
        world = saved[slot].copy();
        past.clear();
        return world.time;
    }
}
