/** Promises 17 to 22: chances, as things are now. */
public final class ChancesTest {
    private static final String BY_HAND = "router 4 1;limits 1 3;weight 0;top 32768;flow a 9 9 1 9 marks";

    public static void main(String[] args) {
        base();
        chance();
        next();
        burst();
        sureBurst();
        nothingChanges();
        Checks.end();
    }

    private static void base() {
        EarlyDrops x = Checks.router("router 1 1;limits 0 2;top 16384;gentle 1");
        int[] averages = {0, 1024, 2047, 2048, 3072, 4095, 4096, 99999};
        int[] due = {0, 8192, 16376, 16384, 40960, 65512, 65536, 65536};
        for (int i = 0; i < due.length; i++) {
            int average = averages[i];
            Checks.due("17 gentle " + average, due[i], () -> x.base(average));
        }
        x.setGentle(0);
        Checks.due("17 not gentle, below HIGH", 16376, () -> x.base(2047));
        Checks.due("17 not gentle, at HIGH", 65536, () -> x.base(2048));
        x.setLimits(1, 2);
        Checks.due("17 below LOW", 0, () -> x.base(1023));
        Checks.due("17 at LOW", 0, () -> x.base(1024));
        Checks.due("17 behind LOW", 16, () -> x.base(1025));
        x.setLimits(0, 40);
        x.setTop(65536);
        Checks.due("17 long products", 65534, () -> x.base(40959));
        x.setTop(0);
        x.setGentle(1);
        Checks.due("17 long products beyond HIGH", 65534, () -> x.base(81919));
        Checks.due("17 twice HIGH", 65536, () -> x.base(81920));
        Checks.argument("17 -1", () -> x.base(-1));
        Checks.argument("17 100000", () -> x.base(100000));
    }

    private static void chance() {
        EarlyDrops x = Checks.router("router 1 1;limits 1 3;top 32768");
        // BASE is 16384 at 2048
        int[] due = {16384, 21845, 32768, 65536, 65536, 65536};
        for (int i = 0; i < due.length; i++) {
            int count = i;
            Checks.due("18 COUNT " + i, due[i], () -> x.chance(2048, count));
        }
        x.setTop(65536);
        Checks.due("18 65536 at most", 65536, () -> x.chance(2560, 1));
        Checks.due("18 BASE of 49152", 49152, () -> x.chance(2560, 0));
        Checks.due("18 below LOW", 0, () -> x.chance(1023, 9999));
        Checks.due("18 at 0", 0, () -> x.chance(0, 0));
        Checks.due("18 above", 65536, () -> x.chance(3072, 0));
        Checks.due("18 above with COUNT", 65536, () -> x.chance(99999, 9999));
        x.setTop(1);
        x.setLimits(0, 1);
        Checks.due("18 BASE 0", 0, () -> x.chance(1023, 9999));
        x.setTop(7);
        Checks.due("18 COUNT 9999, BASE 6", 65536L * 6 / (65536 - 9999 * 6), () -> (long) x.chance(1023, 9999));
        Checks.argument("18 average -1", () -> x.chance(-1, 0));
        Checks.argument("18 average 100000", () -> x.chance(100000, 0));
        Checks.argument("18 count -1", () -> x.chance(0, -1));
        Checks.argument("18 count 10000", () -> x.chance(0, 10000));
    }

    private static void next() {
        EarlyDrops x = Checks.router(BY_HAND);
        int[] ways = {1, 3, 3, 2, 2};
        int[] chances = {0, 0, 21845, 65536, 65536};
        for (int i = 0; i < ways.length; i++) {
            Checks.due("19 next", ways[i], x::next);
            Checks.due("20 nextChance", chances[i], x::nextChance);
            x.send(0, 1);
            int chance = chances[i];
            Checks.due("20 as it came", chance, () -> x.decision(0, 5));
        }
        x.setLimits(0, 39);
        Checks.due("19 between", 3, x::next);
        x.send(0, 1);
        Checks.due("19 full", 0, x::next);
        Checks.due("20 full", 65536, x::nextChance);
        // AVERAGE is 0 and becomes 0: LOW is 0
        EarlyDrops y = Checks.router("router 4 1;limits 0 3;weight 0");
        Checks.due("19 at LOW", 3, y::next);
        // AVERAGE as it would become, not as it is: 1024 in place of 0
        EarlyDrops z = Checks.router("router 4 1;limits 1 2;weight 0;flow a 9 9 1 1");
        z.send(0, 1);
        Checks.due("19 as it would become", 3, z::next);
        Checks.due("19 AVERAGE stays", 0, () -> z.size(9));
    }

    private static void burst() {
        EarlyDrops x = Checks.router(BY_HAND);
        Checks.due("21 below", 1.0, () -> x.burst(1));
        Checks.due("21 CHANCE 0", 1.0, () -> x.burst(2));
        Checks.due("21 CHANCE 21845", (65536 - 21845) / 65536.0, () -> x.burst(3));
        Checks.due("21 above", 0.0, () -> x.burst(4));
        Checks.due("21 60", 0.0, () -> x.burst(60));
        x.setLimits(1, 5);
        // BASE 8192, 16384: CHANCE 65536 * 8192 / 57344 and 65536 * 16384 / 32768
        Checks.due("21 COUNT grows", (65536 - 9362) / 65536.0 * (32768 / 65536.0), () -> x.burst(4));
        Checks.due("21 full", 0.0, () -> x.burst(5));
        EarlyDrops y = Checks.router("router 40 1;top 0;weight 10;flow a 9 9 1 1");
        Checks.due("21 up to LIMIT", 1.0, () -> y.burst(40));
        Checks.due("21 beyond LIMIT", 0.0, () -> y.burst(41));
        y.send(0, 1);
        Checks.due("21 behind the queue", 1.0, () -> y.burst(39));
        Checks.due("21 full behind the queue", 0.0, () -> y.burst(40));
        Checks.argument("21 0", () -> y.burst(0));
        Checks.argument("21 61", () -> y.burst(61));
    }

    private static void sureBurst() {
        EarlyDrops x = Checks.router(BY_HAND);
        Checks.due("22 100", 2, () -> x.sureBurst(100));
        Checks.due("22 67", 2, () -> x.sureBurst(67));
        Checks.due("22 66", 3, () -> x.sureBurst(66));
        Checks.due("22 1", 3, () -> x.sureBurst(1));
        x.send(0, 3);
        Checks.due("22 none", 0, () -> x.sureBurst(1));
        EarlyDrops y = Checks.router("router 40 1;top 0;weight 10");
        Checks.due("22 up to LIMIT", 40, () -> y.sureBurst(100));
        // COUNT is -1 again, so that CHANCE of the next one is BASE, just a half
        EarlyDrops z = Checks.router("router 9 1;limits 39 40;weight 0;top 65536;flow a 9 9 1 1");
        z.send(0, 1);
        z.setLimits(0, 2);
        Checks.due("21 a half", 0.5, () -> z.burst(1));
        Checks.due("22 at least 50", 1, () -> z.sureBurst(50));
        Checks.due("22 not at least 51", 0, () -> z.sureBurst(51));
        z.setTop(2);
        Checks.due("22 all but sure", 65535 / 65536.0, () -> z.burst(1));
        Checks.due("22 not quite 100", 0, () -> z.sureBurst(100));
        Checks.due("22 at least 99", true, () -> z.sureBurst(99) > 0);
        Checks.argument("22 0", () -> x.sureBurst(0));
        Checks.argument("22 101", () -> x.sureBurst(101));
    }

    private static void nothingChanges() {
        EarlyDrops x = Checks.router(BY_HAND);
        x.send(0, 2);
        String before = Checks.sizes(x) + Checks.flowOf(x, 0);
        x.base(2000);
        x.chance(2000, 5);
        x.next();
        x.nextChance();
        x.burst(9);
        x.sureBurst(9);
        Checks.due("17 to 22 change nothing", before, () -> Checks.sizes(x) + Checks.flowOf(x, 0));
        x.send(0, 1);
        Checks.due("17 to 22 draw nothing", 11517, () -> x.decision(0, 6));
    }
}
