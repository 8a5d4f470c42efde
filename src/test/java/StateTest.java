/** Promises 6 to 16, and the arrivals and ticks of the terms that they tell of. */
public final class StateTest {
    // with WEIGHT 0 AVERAGE is 1024 times the packets ahead; TOP 65536 makes BASE easy to tell by hand
    private static final String PLAIN = ";weight 0;top 65536";

    public static void main(String[] args) {
        sizes();
        flows();
        windows();
        sendingTimes();
        letters();
        packets();
        accounts();
        decisionsByHand();
        gentleDecisions();
        slowAverage();
        ring();
        quotients();
        Checks.end();
    }

    private static void sizes() {
        EarlyDrops x = Checks.router("router 11 2;limits 3 9;top 7;weight 1;gentle 1;flow a 1 2 3 3;flow b 2 2 1 1");
        x.tick(1);
        x.setOn(0, false);
        Checks.due("6", "11 2 3 9 7 1 1 1 1 1280 -1 2 1 3 2 ", () -> Checks.sizes(x));
        Checks.argument("6 below", () -> x.size(-1));
        Checks.argument("6 above", () -> x.size(15));
        Checks.argument("6 far", () -> x.size(Integer.MIN_VALUE));
    }

    private static void flows() {
        EarlyDrops x = Checks.router("router 4 1;limits 0 1" + PLAIN + ";flow a 3 5 2 4;flow b 1 50 9 9 marks");
        Checks.due("7 a", "3 5 2 4 0 1 2 0 0 3 0", () -> Checks.flowOf(x, 0));
        Checks.due("7 b", "1 50 9 9 1 1 9 0 0 1 0", () -> Checks.flowOf(x, 1));
        x.tick(1);
        // b: the first is between with BASE 0, the second above, and so on; one is let in, and leaves
        Checks.due("7 b told", "1 50 9 9 1 1 9 1 0 50 1", () -> Checks.flowOf(x, 1));
        x.send(0, 1);
        x.setOn(0, false);
        Checks.due("7 a off, one waits", "3 5 2 4 0 0 2 0 1 2 0", () -> Checks.flowOf(x, 0));
        Checks.index("7 no flow -1", () -> x.flow(-1, 0));
        Checks.index("7 no flow 2", () -> x.flow(2, 0));
        Checks.index("7 index ahead of what", () -> x.flow(2, 11));
        Checks.argument("7 what -1", () -> x.flow(0, -1));
        Checks.argument("7 what 11", () -> x.flow(1, 11));
        Checks.index("7 without flows", () -> new EarlyDrops().flow(0, 0));
    }

    private static void windows() {
        EarlyDrops x = Checks.router("router 40 9;flow a 1 1 2 4");
        int[] grows = {2, 3, 4, 4};
        for (int window : grows) {
            x.tick(1);
            Checks.due("7 WINDOW grows to CAP", window, () -> x.flow(0, 6));
        }
        EarlyDrops y = Checks.router("router 1 1;flow a 1 1 9 9");
        int[] halves = {9, 4, 2, 1, 2, 1};
        for (int window : halves) {
            y.tick(1);
            Checks.due("7 WINDOW halves to 1", window, () -> y.flow(0, 6));
        }
        EarlyDrops z = Checks.router("router 1 1;flow a 2 2 5 9");
        z.send(0, 2);
        Checks.due("7 told by hand", 1, () -> z.flow(0, 7));
        Checks.due("7 by hand is no sending", 0, () -> z.flow(0, 10));
        z.tick(1);
        z.tick(1);
        Checks.due("7 the first sending has START", 5, () -> z.flow(0, 6));
        Checks.due("7 one sending", 1, () -> z.flow(0, 10));
        EarlyDrops w = Checks.router("router 9 9;flow a 2 2 5 9");
        w.send(0, 10);
        w.tick(2);
        Checks.due("7 forgotten with the first sending", 0, () -> w.flow(0, 7));
        w.tick(2);
        Checks.due("7 so it grows", 6, () -> w.flow(0, 6));
        w.send(0, 10);
        w.tick(2);
        Checks.due("7 told by hand it halves", 3, () -> w.flow(0, 6));
        EarlyDrops one = Checks.router("router 1 1;flow a 1 1 1 1");
        one.send(0, 2);
        one.tick(1);
        one.send(0, 2);
        one.tick(1);
        Checks.due("7 not below 1", 1, () -> one.flow(0, 6));
    }

    private static void sendingTimes() {
        EarlyDrops x = Checks.router("router 40 9;flow a 3 4 1 1;flow b 99 50 1 1");
        int[] until = {3, 2, 1, 4, 3, 2, 1, 4};
        int[] sendings = {0, 0, 0, 1, 1, 1, 1, 2};
        for (int time = 0; time < until.length; time++) {
            int now = time;
            Checks.due("7 a at " + time, until[time] + " " + sendings[time], () -> x.flow(0, 9) + " " + x.flow(0, 10));
            Checks.due("7 b at " + time, 99 - now, () -> x.flow(1, 9));
            x.tick(1);
        }
        x.setOn(0, false);
        x.tick(3);
        Checks.due("7 passed over when off", "4 2", () -> x.flow(0, 9) + " " + x.flow(0, 10));
        x.setOn(0, true);
        x.tick(3);
        Checks.due("7 its times stay", "1 2", () -> x.flow(0, 9) + " " + x.flow(0, 10));
        x.tick(1);
        Checks.due("7 sends again", "4 3", () -> x.flow(0, 9) + " " + x.flow(0, 10));
        x.tick(50);
        x.tick(33);
        Checks.due("7 b at 98", "1 0", () -> x.flow(1, 9) + " " + x.flow(1, 10));
        x.tick(1);
        Checks.due("7 b at 99", 50, () -> x.flow(1, 9));
        Checks.due("7 b sent once", 1, () -> x.flow(1, 10));
        // both are due at time 1: flow 0 first
        EarlyDrops y = Checks.router("router 40 1;flow a 1 1 2 2;flow b 1 1 2 2");
        y.tick(1);
        Checks.due("7 in the order of their numbers", "0@1 1@1 1@1", () -> Checks.queueOf(y));
    }

    private static void letters() {
        EarlyDrops x = Checks.router("router 1 1;flow abcdefyz 1 1 1 1;flow q 1 1 1 1");
        for (int i = 0; i < 8; i++) {
            int at = i;
            Checks.due("8 letter " + i, (int) "abcdefyz".charAt(i), () -> x.letter(0, at));
        }
        Checks.due("8 behind the last", -1, () -> x.letter(0, 8));
        Checks.due("8 ahead of the first", -1, () -> x.letter(0, -1));
        Checks.due("8 q", 113, () -> x.letter(1, 0));
        Checks.due("8 behind q", -1, () -> x.letter(1, 1));
        Checks.due("8 far", -1, () -> x.letter(1, Integer.MAX_VALUE));
        Checks.index("8 no flow", () -> x.letter(2, 0));
        Checks.index("8 no flow -1", () -> x.letter(-1, 9));
    }

    private static final String BY_HAND = "router 4 1;limits 1 3;weight 0;top 32768;flow a 9 9 1 9;flow b 9 9 1 9 marks";

    // The draws from SEED 1 are 33676, 11517, 20227, 35031. LOW is 1024, HIGH 3072 at first.
    private static EarlyDrops byHand() {
        EarlyDrops x = Checks.router(BY_HAND);
        Checks.due("33 of b three are let in", 3, () -> x.send(1, 5));
        Checks.due("33 above", 0, () -> x.send(0, 1));
        x.setLimits(1, 5);
        Checks.due("33 dropped as between", 0, () -> x.send(0, 1));
        Checks.due("33 let in as between", 1, () -> x.send(0, 1));
        Checks.due("33 full", 0, () -> x.send(0, 1));
        return x;
    }

    private static void packets() {
        EarlyDrops x = byHand();
        Checks.due("9 all of them", "1@0 1@0 1@0* 0@0", () -> Checks.queueOf(x));
        x.tick(1);
        Checks.due("9 the first left", "1@0 1@0* 0@0", () -> Checks.queueOf(x));
        x.setWeight(10);
        x.send(1, 1);
        Checks.due("9 the last came last", "1@0 1@0* 0@0 1@1", () -> Checks.queueOf(x));
        Checks.index("9 behind the last", () -> x.packet(4, 0));
        Checks.index("9 -1", () -> x.packet(-1, 0));
        Checks.index("9 index ahead of what", () -> x.packet(-1, 3));
        Checks.argument("9 what 3", () -> x.packet(0, 3));
        Checks.argument("9 what -1", () -> x.packet(3, -1));
        Checks.index("9 empty", () -> new EarlyDrops().packet(0, 0));
    }

    private static void accounts() {
        EarlyDrops x = byHand();
        Checks.due("10 a", "4 0 1 1 1 0 0 0", () -> Checks.accounts(x, 0));
        Checks.due("10 b", "5 1 0 2 0 0 0 0", () -> Checks.accounts(x, 1));
        Checks.due("10 all", "9 1 1 3 1 0 0 0", () -> Checks.accounts(x, -1));
        x.tick(3);
        Checks.due("10 b has left, with waits 1, 2 and 3", "5 1 0 2 0 3 1 6", () -> Checks.accounts(x, 1));
        Checks.due("10 a has not", "4 0 1 1 1 0 0 0", () -> Checks.accounts(x, 0));
        x.tick(1);
        Checks.due("10 a has", "4 0 1 1 1 1 0 4", () -> Checks.accounts(x, 0));
        Checks.due("10 all have", "9 1 1 3 1 4 1 10", () -> Checks.accounts(x, -1));
        Checks.index("10 no flow 2", () -> x.account(2, 0));
        Checks.index("10 no flow -2", () -> x.account(-2, 0));
        Checks.index("10 index ahead of what", () -> x.account(2, 8));
        Checks.argument("10 what 8", () -> x.account(0, 8));
        Checks.argument("10 what -1", () -> x.account(-1, -1));
        Checks.due("10 all of none", 0L, () -> new EarlyDrops().account(-1, 7));
        Checks.index("10 none", () -> new EarlyDrops().account(0, 0));
        EarlyDrops y = Checks.router("router 9 1;flow a 1 9 1 1");
        y.tick(1);
        Checks.due("10 in and out in one tick", "1 0 0 0 0 1 0 0", () -> Checks.accounts(y, 0));
    }

    private static void decisionsByHand() {
        EarlyDrops x = byHand();
        String[] due = {
            "0 0 0 4096 0 65536 -1 2", "0 0 3 3072 1 21845 35031 0", "0 0 3 3072 1 21845 20227 2", "0 0 2 3072 0 65536 -1 2",
            "0 1 2 3072 0 65536 -1 2", "0 1 2 3072 0 65536 -1 2", "0 1 3 2048 1 21845 11517 1", "0 1 3 1024 0 0 33676 0",
            "0 1 1 0 0 0 -1 0"};
        for (int k = 0; k < due.length; k++) {
            int at = k;
            Checks.due("11 decision " + k, due[k], () -> Checks.decisionOf(x, at));
        }
        Checks.due("11 so many", 9, () -> x.size(13));
        Checks.index("11 behind the oldest", () -> x.decision(9, 0));
        Checks.index("11 -1", () -> x.decision(-1, 0));
        Checks.index("11 index ahead of what", () -> x.decision(9, 8));
        Checks.argument("11 what 8", () -> x.decision(0, 8));
        Checks.argument("11 what -1", () -> x.decision(8, -1));
        Checks.due("12 amiss", 0, x::amiss);
        EarlyDrops y = Checks.router(BY_HAND);
        int[] counts = {-1, 0, 0, 0};
        for (int count : counts) {
            y.send(1, 1);
            Checks.due("11 COUNT behind it", count, () -> y.size(10));
        }
        y.setLimits(1, 5);
        y.send(0, 2);
        Checks.due("11 COUNT of those let in", 1, () -> y.size(10));
        y.send(0, 1);
        Checks.due("11 COUNT behind full", 0, () -> y.size(10));
        y.setLimits(20, 21);
        y.tick(1);
        y.send(0, 1);
        Checks.due("11 COUNT behind below", -1, () -> y.size(10));
        // a CHANCE of 65536 draws all the same
        EarlyDrops z = Checks.router("router 9 1;limits 0 1;weight 1;top 65536;flow a 9 9 1 1");
        z.send(0, 3);
        Checks.due("11 sure", "0 0 3 768 1 65536 20227 2", () -> Checks.decisionOf(z, 0));
        Checks.due("11 likely", "0 0 3 512 1 65536 11517 2", () -> Checks.decisionOf(z, 1));
        Checks.due("11 never", "0 0 3 0 0 0 33676 0", () -> Checks.decisionOf(z, 2));
        // BASE of the next is TOP * 3072 / 4096, and its draw 33676
        Checks.due("11 a draw of CHANCE is not less", "0 0 3 3072 0 33676 33676 0", () -> firstDraw(44902));
        Checks.due("11 a draw below CHANCE is", "0 0 3 3072 0 33677 33676 2", () -> firstDraw(44903));
        EarlyDrops many = Checks.router("router 40 9;limits 0 40;top 20000;weight 1;flow a 1 1 9 9;flow b 1 1 9 9 marks");
        for (int i = 0; i < 40; i++) {
            many.tick(1);
            Checks.due("12 never amiss", 0, many::amiss);
        }
    }

    private static String firstDraw(int top) {
        EarlyDrops x = Checks.router("router 9 1;limits 39 40;weight 0;flow a 9 9 1 1");
        x.send(0, 3);
        x.setLimits(0, 4);
        x.setTop(top);
        x.send(0, 1);
        return Checks.decisionOf(x, 0);
    }

    private static void gentleDecisions() {
        // HIGH is 1024: above begins at 2048 with GENTLE, and BASE is 0 + 65536 * 0 / 1024 at HIGH
        EarlyDrops x = Checks.router("router 9 1;limits 0 1;weight 0;top 0;gentle 1;flow a 9 9 1 1");
        x.send(0, 3);
        Checks.due("11 gentle at twice HIGH", "0 0 2 2048 0 65536 -1 2", () -> Checks.decisionOf(x, 0));
        Checks.due("11 gentle at HIGH", "0 0 3 1024 1 0 11517 0", () -> Checks.decisionOf(x, 1));
        EarlyDrops y = Checks.router("router 9 1;limits 0 1;weight 0;top 0;flow a 9 9 1 1");
        y.send(0, 2);
        Checks.due("11 not gentle at HIGH", "0 0 2 1024 0 65536 -1 2", () -> Checks.decisionOf(y, 0));
        EarlyDrops z = Checks.router("router 2 1;limits 0 1;weight 0;flow a 9 9 1 1");
        z.setLimits(2, 3);
        z.send(0, 3);
        Checks.due("11 full ahead of all others", "0 0 0 2048 0 65536 -1 2", () -> Checks.decisionOf(z, 0));
        Checks.due("11 below", "0 0 1 1024 0 0 -1 0", () -> Checks.decisionOf(z, 1));
        // long products: COUNT grows while TOP is 0
        EarlyDrops w = Checks.router("router 40 9;limits 0 40;weight 0;top 0;flow a 1 1 9 9");
        w.tick(50);
        Checks.due("11 COUNT without an end", 449, () -> w.size(10));
        w.setTop(65536);
        Checks.due("11 then sure", 1638, () -> w.base(1024));
        w.send(0, 2);
        Checks.due("11 COUNT * BASE beyond 65536", 65536, () -> w.decision(0, 5));
    }

    private static void slowAverage() {
        EarlyDrops x = Checks.router("router 40 1;weight 2;flow a 9 1 1 1");
        int[] due = {0, 256, 704};
        for (int average : due) {
            x.send(0, 1);
            Checks.due("13 by an arrival", average / 1024.0, x::average);
        }
        int[] ticks = {704, 704, 528, 396, 297, 223};
        for (int average : ticks) {
            x.tick(1);
            Checks.due("13 by a tick", average / 1024.0, x::average);
        }
        x.send(0, 1);
        Checks.due("13 rounded down below 0", 167 / 1024.0, x::average);
        Checks.due("6 the same", 167, () -> x.size(9));
        EarlyDrops y = Checks.router("router 40 1;weight 10;flow a 9 1 1 1");
        y.send(0, 2);
        Checks.due("13 WEIGHT 10", 1 / 1024.0, y::average);
        y.tick(2);
        Checks.due("13 the quotient rounded down", 1 / 1024.0, y::average);
        Checks.due("13 at first", 0.0, () -> new EarlyDrops().average());
    }

    private static void ring() {
        EarlyDrops x = Checks.router("router 40 1;flow a 1 1 1 1");
        for (int i = 1; i <= 30; i++) {
            x.tick(1);
            int kept = Math.min(i, 24);
            int time = i;
            Checks.due("11 kept", kept, () -> x.size(13));
            Checks.due("11 the latest", time, () -> x.decision(0, 0));
            Checks.due("11 the oldest", time - kept + 1, () -> x.decision(kept - 1, 0));
            Checks.index("11 not kept", () -> x.decision(kept, 0));
        }
    }

    private static void quotients() {
        EarlyDrops none = new EarlyDrops();
        Checks.due("14 none arrived", 0f, none::lossShare);
        Checks.due("15 no flows", 1.0, none::fairness);
        Checks.due("16 no flows", 0.0, () -> none.meanWait(-1));
        Checks.index("16 no flow 0", () -> none.meanWait(0));
        EarlyDrops x = byHand();
        Checks.due("14 5 of 9", 5f / 9f, x::lossShare);
        Checks.due("15 none left", 1.0, x::fairness);
        Checks.due("16 none left", 0.0, () -> x.meanWait(1));
        x.tick(3);
        Checks.due("15 one flow of two", 9.0 / 18.0, x::fairness);
        Checks.due("16 a", 0.0, () -> x.meanWait(0));
        Checks.due("16 b", 2.0, () -> x.meanWait(1));
        x.tick(1);
        Checks.due("15 1 and 3", 16.0 / 20.0, x::fairness);
        Checks.due("16 all", 2.5, () -> x.meanWait(-1));
        Checks.due("16 a", 4.0, () -> x.meanWait(0));
        Checks.index("16 no flow 2", () -> x.meanWait(2));
        Checks.index("16 no flow -2", () -> x.meanWait(-2));
        EarlyDrops y = Checks.router("router 1 1;flow a 1 1 3 3;flow b 99 1 1 1;flow c 99 1 1 1");
        y.tick(1);
        Checks.due("14 2 of 3", 2f / 3f, y::lossShare);
        Checks.due("15 one of three", 1.0 / 3.0, y::fairness);
        y.send(1, 1);
        y.tick(1);
        Checks.due("15 1, 1 and 0", 4.0 / 6.0, y::fairness);
        Checks.due("16 b waited 1", 1.0, () -> y.meanWait(1));
        Checks.due("16 half of a tick", 0.5, () -> y.meanWait(-1));
    }
}
