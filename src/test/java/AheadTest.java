/** Promises 23 to 31: what will come, if only ticks pass. */
public final class AheadTest {
    // No early drops, since MIN is beyond LIMIT. By hand: at 1 one packet, at 2 two, at 3 three of which one finds the
    // queue full, at 4 one, at 5 two of which one is dropped, at 6 one, and so on by turns; one leaves in each tick.
    private static final String FULL_ONLY = "router 3 1;limits 5 15;weight 0;flow a 1 1 1 3";

    public static void main(String[] args) {
        byHand();
        ranges();
        bestWeight();
        bestTop();
        gain();
        asItComes();
        Checks.end();
    }

    private static void byHand() {
        EarlyDrops x = Checks.router(FULL_ONLY);
        int[] queue = {0, 0, 1, 2, 2, 2, 2, 2};
        int[] average = {0, 0, 1024, 3072, 2048, 3072, 2048, 3072};
        int[] window = {1, 1, 2, 3, 1, 2, 1, 2};
        long[] arrived = {0, 1, 3, 6, 7, 9, 10, 12};
        long[] dropped = {0, 0, 0, 1, 1, 2, 2, 3};
        long[] waited = {0, 0, 0, 1, 2, 4, 6, 8};
        for (int t = 0; t < queue.length; t++) {
            int ticks = t;
            Checks.due("23 arrived in " + t, arrived[t], () -> x.accountIn(0, 0, ticks));
            Checks.due("23 dropped as full in " + t, dropped[t], () -> x.accountIn(-1, 4, ticks));
            Checks.due("23 left in " + t, (long) t, () -> x.accountIn(0, 5, ticks));
            Checks.due("23 waited in " + t, waited[t], () -> x.accountIn(-1, 7, ticks));
            Checks.due("24 queueIn " + t, queue[t], () -> x.queueIn(ticks));
            Checks.due("25 averageIn " + t, average[t], () -> x.averageIn(ticks));
            Checks.due("26 windowIn " + t, window[t], () -> x.windowIn(0, ticks));
        }
        Checks.due("27 longest 1", 0, () -> x.longest(1));
        Checks.due("27 longest 2", 1, () -> x.longest(2));
        Checks.due("27 longest 200", 2, () -> x.longest(200));
        Checks.due("28 dropIn", 3, x::dropIn);
        x.tick(3);
        Checks.due("23 only what will come", 1L, () -> x.accountIn(0, 4, 2));
        Checks.due("23 arrive from now", 3L, () -> x.accountIn(-1, 0, 2));
        Checks.due("28 dropIn, from now", 2, x::dropIn);
        x.setOn(0, false);
        Checks.due("27 not the queue now", 1, () -> x.longest(3));
        Checks.due("24 the queue now", 2, () -> x.queueIn(0));
        Checks.due("28 none", -1, x::dropIn);
        EarlyDrops late = Checks.router("router 1 1;flow a 99 1 1 9;flow b 99 1 1 1");
        late.tick(1);
        Checks.due("28 in 98", 98, late::dropIn);
        EarlyDrops marks = Checks.router("router 40 9;limits 0 40;weight 0;top 65536;flow a 1 1 3 3 marks");
        Checks.due("28 marks are no drops", -1, marks::dropIn);
        Checks.due("23 though there are marks", true, () -> marks.accountIn(0, 1, 200) > 0);
        EarlyDrops twice = Checks.router("router 1 1;flow a 50 50 1 1;flow b 50 50 1 1");
        Checks.due("28 by another flow", 50, twice::dropIn);
        // with windows of 1, 2, 3, 4 and 5 for LIMIT 4
        EarlyDrops far = Checks.router("router 4 9;flow a 1 50 1 9");
        Checks.due("28 201 is too far", -1, far::dropIn);
        far.tick(1);
        Checks.due("28 200", 200, far::dropIn);
        Checks.due("24 without a look ahead before", 2, () -> Checks.router(FULL_ONLY).queueIn(3));
        Checks.due("25 without a look ahead before", 3072, () -> Checks.router(FULL_ONLY).averageIn(3));
        Checks.due("26 without a look ahead before", 3, () -> Checks.router(FULL_ONLY).windowIn(0, 3));
        EarlyDrops end = Checks.router("router 2 1;flow a 1 1 1 1;flow b 99 50 1 1");
        end.tick(50);
        end.setOn(1, false);
        Checks.due("28 none within 200", -1, end::dropIn);
    }

    private static void ranges() {
        EarlyDrops x = Checks.router(FULL_ONLY);
        Checks.index("23 no flow 1", () -> x.accountIn(1, 0, 0));
        Checks.index("23 no flow -2", () -> x.accountIn(-2, 0, 0));
        Checks.index("23 index first", () -> x.accountIn(1, 8, 201));
        Checks.argument("23 what 8", () -> x.accountIn(0, 8, 0));
        Checks.argument("23 what -1", () -> x.accountIn(-1, -1, 0));
        Checks.argument("23 ticks -1", () -> x.accountIn(0, 0, -1));
        Checks.argument("23 ticks 201", () -> x.accountIn(0, 0, 201));
        Checks.due("23 ticks 200", 200L, () -> x.accountIn(0, 5, 200));
        Checks.argument("24 -1", () -> x.queueIn(-1));
        Checks.argument("24 201", () -> x.queueIn(201));
        Checks.due("24 200", 2, () -> x.queueIn(200));
        Checks.argument("25 -1", () -> x.averageIn(-1));
        Checks.argument("25 201", () -> x.averageIn(201));
        Checks.due("25 200", 2048, () -> x.averageIn(200));
        Checks.index("26 no flow 1", () -> x.windowIn(1, 0));
        Checks.index("26 NONE is no flow here", () -> x.windowIn(-1, 0));
        Checks.index("26 index first", () -> x.windowIn(-1, 201));
        Checks.argument("26 -1", () -> x.windowIn(0, -1));
        Checks.argument("26 201", () -> x.windowIn(0, 201));
        Checks.due("26 200", 1, () -> x.windowIn(0, 200));
        Checks.argument("27 0", () -> x.longest(0));
        Checks.argument("27 201", () -> x.longest(201));
        Checks.argument("29 0", () -> x.bestWeight(0));
        Checks.argument("29 101", () -> x.bestWeight(101));
        Checks.argument("30 0", () -> x.bestTop(0));
        Checks.argument("30 101", () -> x.bestTop(101));
        Checks.argument("31 0", () -> x.gain(0));
        Checks.argument("31 201", () -> x.gain(201));
        Checks.due("31 200", 0L, () -> x.gain(200));
    }

    private static void bestWeight() {
        // In the one tick 7, 6, 5, 4 and 2 of 9 packets are dropped with WEIGHT 0 to 4, none from 5 on.
        EarlyDrops x = Checks.router("router 9 1;limits 1 2;top 65536;weight 10;flow a 1 1 9 9");
        Checks.due("29 the lowest of several", 5, () -> x.bestWeight(1));
        Checks.due("29 WEIGHT stays", 10, () -> x.size(5));
        int[] drops = {7, 6, 5, 4, 2, 0, 0};
        for (int weight = 0; weight < drops.length; weight++) {
            x.setWeight(weight);
            long due = drops[weight];
            Checks.due("29 by WEIGHT " + weight, due, () -> x.accountIn(0, 2, 1) + x.accountIn(0, 3, 1));
        }
        Checks.due("29 whatever it is now", 5, () -> x.bestWeight(1));
        Checks.due("29 no drops", 0, () -> new EarlyDrops().bestWeight(100));
        for (int ticks = 1; ticks <= 100; ticks += 9) {
            EarlyDrops y = Checks.router("router 20 3;limits 1 4;top 30000;flow a 1 2 3 9;flow b 2 3 1 9 marks;seed 77");
            y.tick(9);
            int some = ticks;
            Checks.due("29 as by setting each", bySetting(y, 10, 1, some), () -> y.bestWeight(some));
        }
    }

    private static void bestTop() {
        String marks = "router 12 4;limits 0 40;weight 0;flow a 1 1 8 8 marks";
        Checks.due("30 TOP 0 has drops", true, () -> bySetting(Checks.router(marks), 16, 4096, 3) > 0);
        Checks.due("30 no drops", 0, () -> new EarlyDrops().bestTop(100));
        for (int ticks = 1; ticks <= 100; ticks += 9) {
            EarlyDrops x = Checks.router(marks);
            int some = ticks;
            Checks.due("30 as by setting each", bySetting(x, 16, 4096, some), () -> x.bestTop(some));
            Checks.due("30 TOP stays", 6554, () -> x.size(4));
            EarlyDrops y = Checks.router("router 20 3;limits 1 4;flow a 1 2 3 9;flow b 2 3 1 9 marks;seed 77");
            y.tick(9);
            Checks.due("30 as by setting each, later", bySetting(y, 16, 4096, some), () -> y.bestTop(some));
        }
    }

    /** The best of 0 to steps, each times unit, told by setting it (as TOP, if the unit is more than 1) and undoing that. */
    private static int bySetting(EarlyDrops x, int steps, int unit, int ticks) {
        int best = -1;
        long fewest = 0;
        for (int step = 0; step <= steps; step++) {
            if (unit == 1) {
                x.setWeight(step);
            } else {
                x.setTop(step * unit);
            }
            long drops = x.accountIn(-1, 2, ticks) + x.accountIn(-1, 3, ticks) + x.accountIn(-1, 4, ticks);
            x.undo();
            if (best < 0 || drops < fewest) {
                best = step * unit;
                fewest = drops;
            }
        }
        return best;
    }

    private static void gain() {
        // Without early drops 3 of 9 are let in, with them 1.
        EarlyDrops x = Checks.router("router 3 1;limits 0 1;weight 0;flow a 1 1 9 9");
        Checks.due("31 negative", -2L, () -> x.gain(1));
        // Unmarked, the third window of 8 finds only 4 places; a mark of the first one (the sixth draw, 11254, is less
        // than 21845) halves the second.
        EarlyDrops y = Checks.router("router 12 4;limits 0 40;weight 0;top 65536;flow a 1 1 8 8 marks");
        Checks.due("31 2 ticks", 0L, () -> y.gain(2));
        Checks.due("31 3 ticks", 4L, () -> y.gain(3));
        Checks.due("31 marked in the first tick", true, () -> y.accountIn(0, 1, 1) > 0);
        Checks.due("31 changes nothing", "12 4 0 40 65536 0 0 0 0 0 -1 1 1 0 0 ", () -> Checks.sizes(y));
        // those that were told before are told still
        EarlyDrops z = Checks.router("router 2 1;limits 0 1;weight 0;flow a 1 1 4 4");
        Checks.due("31 three drops, without them two", -1L, () -> z.gain(1));
        z.tick(2);
        Checks.due("31 told of one, it sends one", 0L, () -> z.gain(1));
        Checks.due("31 and then two, of which one is dropped", -1L, () -> z.gain(2));
        Checks.due("31 no flows", 0L, () -> new EarlyDrops().gain(9));
    }

    private static void asItComes() {
        for (int time = 0; time < 90; time += 3) {
            EarlyDrops x = later(time);
            EarlyDrops looked = later(time);
            long[] grown = new long[8];
            for (int what = 0; what < 8; what++) {
                grown[what] = looked.accountIn(1, what, 3);
            }
            int queue = looked.queueIn(3);
            int average = looked.averageIn(3);
            int window = looked.windowIn(0, 3);
            int longest = Math.max(looked.queueIn(1), Math.max(looked.queueIn(2), queue));
            Checks.due("27 of three", longest, () -> looked.longest(3));
            looked.longest(200);
            looked.dropIn();
            looked.bestTop(20);
            looked.bestWeight(20);
            looked.gain(30);
            Checks.same("23 to 31 change nothing", x, looked);
            x.tick(3);
            for (int what = 0; what < 8; what++) {
                int some = what;
                long before = looked.account(1, what);
                Checks.due("23 as it came", grown[what], () -> x.account(1, some) - before);
            }
            Checks.due("24 as it came", queue, () -> x.size(8));
            Checks.due("25 as it came", average, () -> x.size(9));
            Checks.due("26 as it came", window, () -> x.flow(0, 6));
        }
    }

    private static EarlyDrops later(int time) {
        EarlyDrops x = Checks.router("router 9 2;limits 1 6;weight 1;top 20000;gentle 1;flow a 1 2 3 9;flow b 2 3 1 9 marks");
        for (int passed = 0; passed < time; passed += 3) {
            x.tick(3);
        }
        return x;
    }
}
