import java.math.BigInteger;

/**
 * The edges that the document's terms name (The router, Flows, A packet arrives, A tick, Decisions): ahead of each test
 * the sentence that it asks. What is due is told by hand.
 */
public final class EdgesOfTermsTest {
    // no early drop: MIN is far beyond what such a slow AVERAGE can reach
    private static final String CALM = ";limits 39 40;weight 10";
    // the first draws from SEED 1
    private static final int DRAW_1 = 33676;
    private static final int DRAW_2 = 11517;
    private static final int DRAW_3 = 20227;

    public static void main(String[] args) {
        theRouter();
        flows();
        arrivals();
        ticks();
        decisions();
        Checks.end();
    }

    private static void theRouter() {
        limit();
        firstOut();
        rate();
        times();
        defaults();
        draws();
    }

    // "The queue holds at most LIMIT (1 to 40) packets"
    private static void limit() {
        EarlyDrops one = Checks.router("router 1 1" + CALM + ";flow a 99 50 1 1");
        Checks.due("LIMIT 1: one is let in", 1, () -> one.send(0, 1));
        Checks.due("LIMIT 1: no second one", 0, () -> one.send(0, 1));
        Checks.due("LIMIT 1: the queue", "0@0", () -> Checks.queueOf(one));
        EarlyDrops most = Checks.router("router 40 1" + CALM + ";flow a 99 50 1 1");
        Checks.due("LIMIT 40: forty are let in", 40, () -> most.send(0, 40));
        Checks.due("LIMIT 40: no more", 0, () -> most.send(0, 1));
        Checks.due("LIMIT 40: the queue", 40, () -> most.size(8));
        most.tick(1);
        Checks.due("LIMIT 40: the place of one that left", 1, () -> most.send(0, 2));
    }

    // "the one that came first leaves first"
    private static void firstOut() {
        EarlyDrops x = Checks.router("router 9 1" + CALM + ";flow a 99 50 1 1;flow b 99 50 1 1");
        x.send(0, 1);
        x.send(1, 2);
        x.send(0, 1);
        x.tick(1);
        Checks.due("the first one left", "1@0 1@0 0@0", () -> Checks.queueOf(x));
        x.send(1, 1);
        x.tick(2);
        Checks.due("then the second and the third", "0@0 1@1", () -> Checks.queueOf(x));
    }

    // "RATE (1 to 9) packets can leave in a tick"
    private static void rate() {
        EarlyDrops slow = Checks.router("router 20 1" + CALM + ";flow a 99 50 1 1");
        slow.send(0, 11);
        slow.tick(1);
        Checks.due("RATE 1", 10, () -> slow.size(8));
        EarlyDrops fast = Checks.router("router 20 9" + CALM + ";flow a 99 50 1 1");
        fast.send(0, 11);
        fast.tick(1);
        Checks.due("RATE 9", 2, () -> fast.size(8));
    }

    // "The time is 0 at first, 9999 at most."
    private static void times() {
        EarlyDrops x = atLast();
        Checks.due("no tick behind 9999", -2, () -> x.tick(1));
        Checks.due("none of a script", 0, () -> Checks.run(x, "tick 1;"));
        Checks.due("9999 stays", 9999, () -> x.size(7));
        Checks.due("0 at first", 0, () -> new EarlyDrops().size(7));
        Checks.due("0 by a setup", 0, () -> Checks.router("router 1 1").size(7));
    }

    private static EarlyDrops atLast() {
        EarlyDrops x = new EarlyDrops();
        for (int i = 0; i < 5; i++) {
            Checks.run(x, "again 20(tick 50;tick 50;);");
        }
        x.tick(49);
        return x;
    }

    // "MIN (.. 5 if it is not told), MAX (.. 15), TOP (.. 6554), WEIGHT (.. 4) and GENTLE (.. 0)", "AVERAGE (0 at first)",
    // "COUNT is -1 at first"
    private static void defaults() {
        EarlyDrops x = Checks.router("router 40 9;seed 9");
        Checks.due("none told", "40 9 5 15 6554 4 0 0 0 0 -1 0 0 0 0 ", () -> Checks.sizes(x));
        EarlyDrops y = Checks.router("router 1 1;weight 0;limits 0 1");
        Checks.due("some told", "1 1 0 1 6554 0 0 0 0 0 -1 0 0 0 0 ", () -> Checks.sizes(y));
    }

    // "x becomes x * 1103515245 + 12345 (32 bits, wrapping around); the draw is (x >>> 15) modulo 65536", "At first x is
    // the SEED (0 to 9999; 1)"
    private static void draws() {
        drawsFrom("", 1);
        drawsFrom(";seed 0", 0);
        drawsFrom(";seed 1", 1);
        drawsFrom(";seed 9999", 9999);
    }

    private static void drawsFrom(String seed, long first) {
        // MIN 0 and TOP 0: each packet has a draw, and is let in
        EarlyDrops x = Checks.router("router 40 9;limits 0 40;top 0;weight 10;flow a 99 50 1 1" + seed);
        x.send(0, 24);
        BigInteger word = BigInteger.valueOf(first);
        BigInteger all = BigInteger.ONE.shiftLeft(32);
        int wrapped = 0;
        for (int k = 23; k >= 0; k--) {
            BigInteger wide = word.multiply(BigInteger.valueOf(1103515245)).add(BigInteger.valueOf(12345));
            wrapped += wide.compareTo(all) >= 0 ? 1 : 0;
            word = wide.mod(all);
            int due = word.shiftRight(15).mod(BigInteger.valueOf(65536)).intValue();
            int at = k;
            Checks.due("draw " + (24 - k) + " from " + first, due, () -> x.decision(at, 6));
        }
        int times = wrapped;
        Checks.due("it wraps around", true, () -> times > 20);
    }

    private static void flows() {
        noFlows();
        sixFlows();
        onAtFirst();
        sendingTimes();
        passedOver();
        firstThatItDoes();
        half();
        oneMore();
        forgotten();
        byHand();
        oneAfterTheOther();
    }

    // "There are 0 to 6 flows": none
    private static void noFlows() {
        EarlyDrops x = new EarlyDrops();
        Checks.due("no flows are loaded", 0, () -> Checks.load(x, "router 2 1"));
        Checks.due("time passes without them", 50, () -> x.tick(50));
        Checks.due("nothing arrives", 0L, () -> x.account(-1, 0));
        Checks.due("no drop to come", -1, x::dropIn);
        Checks.due("the next is below", 1, x::next);
        Checks.index("no flow 0", () -> x.flow(0, 0));
    }

    // "There are 0 to 6 flows, numbered from 0": six
    private static void sixFlows() {
        EarlyDrops x = Checks.router("router 40 1" + CALM + flow("a") + flow("b") + flow("c") + flow("d") + flow("e") + flow("f"));
        x.tick(1);
        Checks.due("each of six sends", "1@1 2@1 3@1 4@1 5@1", () -> Checks.queueOf(x));
        Checks.due("the name of flow 5", (int) 'f', () -> x.letter(5, 0));
        Checks.due("six are on", 6, () -> x.size(12));
        Checks.index("no flow 6", () -> x.flow(6, 0));
        Checks.loadFails("router 1 1" + flow("a") + flow("b") + flow("c") + flow("d") + flow("e") + flow("f") + flow("g"),
            5, 10 + 6 * flow("a").length() + 1);
    }

    private static String flow(String name) {
        return ";flow " + name + " 1 1 1 1";
    }

    // "A flow is on (at first) or off. WINDOW is START at first."
    private static void onAtFirst() {
        EarlyDrops x = Checks.router("router 9 1" + CALM + ";flow a 1 1 9 9;flow b 1 1 1 9");
        Checks.due("on at first", 1, () -> x.flow(0, 5));
        Checks.due("WINDOW is START, the highest", 9, () -> x.flow(0, 6));
        Checks.due("WINDOW is START, the lowest", 1, () -> x.flow(1, 6));
        Checks.due("told of nothing at first", 0, () -> x.flow(0, 7));
    }

    // "A flow that is on sends at the times FIRST, FIRST + PERIOD, FIRST + 2 * PERIOD and so on"
    private static void sendingTimes() {
        EarlyDrops x = Checks.router("router 40 9" + CALM + ";flow a 1 1 1 1;flow b 99 50 1 1");
        int[] steps = {1, 50, 47, 1, 49, 1, 49, 1};
        String[] due = {"1 0", "51 0", "98 0", "99 1", "148 1", "149 2", "198 2", "199 3"};
        for (int i = 0; i < steps.length; i++) {
            x.tick(steps[i]);
            Checks.due("sendings at " + x.size(7), due[i], () -> x.flow(0, 10) + " " + x.flow(1, 10));
        }
    }

    // "(those at which it is off are passed over)"
    private static void passedOver() {
        EarlyDrops x = Checks.router("router 9 9" + CALM + ";flow a 2 3 1 9");
        x.tick(2);
        x.setOn(0, false);
        x.tick(6);
        x.setOn(0, true);
        x.tick(2);
        Checks.due("5 and 8 are not made up for", "1 1", () -> x.flow(0, 10) + " " + x.flow(0, 6));
        x.tick(1);
        Checks.due("11 is its second", "2 2", () -> x.flow(0, 10) + " " + x.flow(0, 6));
    }

    // "Ahead of each sending but the first one that it does"
    private static void firstThatItDoes() {
        EarlyDrops x = Checks.router("router 9 9" + CALM + ";flow a 2 3 4 9");
        x.setOn(0, false);
        x.tick(7);
        x.setOn(0, true);
        x.tick(1);
        Checks.due("the first one that it does is at 8", "1 4", () -> x.flow(0, 10) + " " + x.flow(0, 6));
        x.tick(3);
        Checks.due("the next is one more", "2 5", () -> x.flow(0, 10) + " " + x.flow(0, 6));
    }

    // "WINDOW becomes its half, but 1 at least"
    private static void half() {
        int[] due = {1, 1, 1, 2, 2, 3, 3, 4, 4};
        for (int start = 1; start <= 9; start++) {
            EarlyDrops x = Checks.router("router 9 9" + CALM + ";flow a 1 1 " + start + " 9");
            x.tick(1);
            x.send(0, 10);
            x.tick(1);
            Checks.due("half of " + start, due[start - 1], () -> x.flow(0, 6));
        }
    }

    // "otherwise it becomes 1 more, but CAP at most"
    private static void oneMore() {
        EarlyDrops x = Checks.router("router 40 9" + CALM + ";flow a 1 1 8 9;flow b 1 1 4 4;flow c 1 1 1 2");
        String[] due = {"8 4 1", "9 4 2", "9 4 2"};
        for (String windows : due) {
            x.tick(1);
            Checks.due("WINDOW", windows, () -> x.flow(0, 6) + " " + x.flow(1, 6) + " " + x.flow(2, 6));
        }
    }

    // "What it was told is forgotten then (also with the first one)."
    private static void forgotten() {
        EarlyDrops x = Checks.router("router 9 9" + CALM + ";flow a 2 1 5 9");
        x.send(0, 10);
        x.tick(1);
        Checks.due("told ahead of the first one", 1, () -> x.flow(0, 7));
        x.tick(1);
        Checks.due("forgotten with the first one, of START", "5 0", () -> x.flow(0, 6) + " " + x.flow(0, 7));
        x.tick(1);
        Checks.due("so the second is one more", "6 0", () -> x.flow(0, 6) + " " + x.flow(0, 7));
        x.send(0, 10);
        Checks.due("told again", 1, () -> x.flow(0, 7));
        EarlyDrops y = Checks.router("router 4 9" + CALM + ";flow a 1 1 5 9");
        y.tick(1);
        Checks.due("told by its own sending", 1, () -> y.flow(0, 7));
        y.tick(1);
        Checks.due("forgotten with the second one", "2 0", () -> y.flow(0, 6) + " " + y.flow(0, 7));
    }

    // "(What is sent by hand is no sending in this sense, but the flow is told of it as well.)"
    private static void byHand() {
        EarlyDrops x = Checks.router("router 9 9" + CALM + ";flow a 2 1 5 9");
        x.send(0, 1);
        Checks.due("by hand, let in", "5 0 0", () -> x.flow(0, 6) + " " + x.flow(0, 7) + " " + x.flow(0, 10));
        x.send(0, 9);
        Checks.due("by hand, dropped", "5 1 0", () -> x.flow(0, 6) + " " + x.flow(0, 7) + " " + x.flow(0, 10));
        x.send(0, 1);
        x.tick(2);
        Checks.due("its first sending has START all the same", "5 0 1",
            () -> x.flow(0, 6) + " " + x.flow(0, 7) + " " + x.flow(0, 10));
    }

    // "Then it sends WINDOW packets, one after the other."
    private static void oneAfterTheOther() {
        EarlyDrops x = Checks.router("router 40 1;limits 39 40;weight 0;flow a 1 1 9 9");
        x.tick(1);
        for (int i = 0; i < 9; i++) {
            int at = 8 - i;
            int average = 1024 * i;
            Checks.due("packet " + i + " finds those ahead of it", average, () -> x.decision(at, 3));
        }
        Checks.due("nine", 9, () -> x.size(13));
    }

    private static void arrivals() {
        averages();
        full();
        fullAheadOfAllElse();
        below();
        above();
        aboveWithGentle();
        baseAtItsEnds();
        countTimesBase();
        mostChance();
        aDrawWhateverChance();
        lessThanChance();
        marked();
        whoIsTold();
    }

    // "the packets in the queue, without the one that arrives", "divided by 2 to the power of WEIGHT, rounded down (also
    // below 0)"
    private static void averages() {
        EarlyDrops x = Checks.router("router 9 1;limits 39 40;weight 0;flow a 99 50 1 1");
        x.send(0, 1);
        Checks.due("the first one finds none", 0, () -> x.size(9));
        x.send(0, 1);
        Checks.due("the second one finds one", 1024, () -> x.size(9));
        // (2048 - 1024) / 1024 and (3072 - 1025) / 1024
        x.setWeight(10);
        x.send(0, 1);
        Checks.due("WEIGHT 10", 1025, () -> x.size(9));
        x.send(0, 1);
        Checks.due("WEIGHT 10, rounded down above 0", 1026, () -> x.size(9));
        for (int weight = 1; weight <= 10; weight++) {
            EarlyDrops y = Checks.router("router 9 9;limits 39 40;weight 10;flow a 99 50 1 1");
            y.send(0, 2);
            y.tick(1);
            Checks.due("1 stays in a tick", 1, () -> y.size(9));
            y.setWeight(weight);
            y.send(0, 1);
            Checks.due("-1 by 2 to the power of " + weight, 0, () -> y.size(9));
        }
    }

    // "full: the queue has LIMIT packets. The packet is dropped. COUNT becomes 0."
    private static void full() {
        EarlyDrops x = Checks.router("router 3 1" + CALM + ";flow a 99 50 1 1");
        x.send(0, 3);
        Checks.due("LIMIT - 1 packets are not full", "0 0 1 2 0 0 -1 0", () -> Checks.decisionOf(x, 0));
        Checks.due("COUNT ahead of it", -1, () -> x.size(10));
        x.send(0, 1);
        Checks.due("LIMIT packets are, AVERAGE moves all the same", "0 0 0 4 0 65536 -1 2", () -> Checks.decisionOf(x, 0));
        Checks.due("COUNT 0", 0, () -> x.size(10));
        Checks.due("three wait", 3, () -> x.size(8));
    }

    // "Then the first of these that holds decides": full ahead of below, above and between
    private static void fullAheadOfAllElse() {
        String[] limits = {"39 40", "0 1", "0 40"};
        for (String both : limits) {
            EarlyDrops x = Checks.router("router 2 1;limits 39 40;weight 0;flow a 99 50 1 1");
            x.send(0, 2);
            Checks.run(x, "limits " + both + ";send a 1;");
            Checks.due("full with limits " + both, "0 0 0 2048 0 65536 -1 2", () -> Checks.decisionOf(x, 0));
            Checks.run(x, "limits 0 40;tick 1;top 0;send a 1;");
            Checks.due("full drew nothing", DRAW_1, () -> x.decision(0, 6));
        }
    }

    /** A router in which the next packet brings AVERAGE to 2047, or to 2048; none has had a draw. */
    private static EarlyDrops near(int average) {
        EarlyDrops x = Checks.router("router 9 1;limits 39 40;weight 0;top 65536;flow a 99 50 1 1;flow m 99 50 1 1 marks");
        x.send(0, 3);
        if (average == 2048) {
            x.tick(1);
        } else {
            // 2048 and (1024 - 2048) / 1024
            x.tick(2);
            x.setWeight(10);
        }
        return x;
    }

    private static void decides(int average, String orders, int flow, String due, int count) {
        EarlyDrops x = near(average);
        Checks.run(x, orders);
        x.send(flow, 1);
        String what = average + " with " + orders;
        Checks.due(what, due, () -> Checks.decisionOf(x, 0));
        Checks.due("COUNT behind " + what, count, () -> x.size(10));
    }

    // "below: AVERAGE is less than LOW. The packet is let in. COUNT becomes -1."
    private static void below() {
        decides(2047, "limits 2 3;", 0, "2 0 1 2047 0 0 -1 0", -1);
        decides(2048, "limits 2 3;", 0, "1 0 3 2048 0 0 " + DRAW_1 + " 0", 0);
        EarlyDrops x = Checks.router("router 9 1;limits 0 1;flow a 99 50 1 1");
        x.send(0, 1);
        Checks.due("AVERAGE 0 is not below MIN 0", "0 0 3 0 0 0 " + DRAW_1 + " 0", () -> Checks.decisionOf(x, 0));
        x.setLimits(1, 2);
        x.send(0, 1);
        Checks.due("below brings COUNT from 0 to -1", "1 -1", () -> x.decision(0, 2) + " " + x.size(10));
    }

    // "above: AVERAGE is at least HIGH .. The packet is dropped. COUNT becomes 0."
    private static void above() {
        decides(2047, "limits 1 2;", 0, "2 0 3 2047 0 65472 " + DRAW_1 + " 2", 0);
        decides(2048, "limits 1 2;", 0, "1 0 2 2048 0 65536 -1 2", 0);
    }

    // "above: .. with GENTLE at least 2 * HIGH"
    private static void aboveWithGentle() {
        decides(2047, "limits 0 1;top 0;gentle 1;", 0, "2 0 3 2047 0 65472 " + DRAW_1 + " 2", 0);
        decides(2048, "limits 0 1;top 0;gentle 1;", 0, "1 0 2 2048 0 65536 -1 2", 0);
        decides(2047, "limits 0 1;top 0;gentle 0;", 0, "2 0 2 2047 0 65536 -1 2", 0);
    }

    // "BASE is TOP * (AVERAGE - LOW) / (HIGH - LOW) if AVERAGE is less than HIGH, otherwise TOP + .."
    private static void baseAtItsEnds() {
        decides(2047, "limits 1 2;top 40000;gentle 1;", 0, "2 0 3 2047 0 39960 " + DRAW_1 + " 2", 0);
        decides(2048, "limits 1 2;top 40000;gentle 1;", 0, "1 0 3 2048 0 40000 " + DRAW_1 + " 2", 0);
        decides(2048, "limits 0 40;top 65536;", 0, "1 0 3 2048 0 3276 " + DRAW_1 + " 0", 0);
    }

    // "CHANCE is 65536 if COUNT * BASE is at least 65536"
    private static void countTimesBase() {
        EarlyDrops x = Checks.router("router 40 1;limits 0 16;weight 0;top 0;flow a 99 50 1 1");
        x.send(0, 4);
        x.setTop(65536);
        x.send(0, 1);
        // BASE is 65536 * 4096 / 16384
        Checks.due("4 * 16384", "3 4096 4 65536 2", () -> x.decision(0, 2) + " " + x.decision(0, 3) + " " + x.decision(0, 4)
            + " " + x.decision(0, 5) + " " + x.decision(0, 7));
        Checks.due("chance() just so", 65536, () -> x.chance(4096, 4));
        Checks.due("ahead of it", 32768, () -> x.chance(4096, 2));
        Checks.due("far behind it", 65536, () -> x.chance(4096, 9999));
    }

    // "otherwise 65536 * BASE / (65536 - COUNT * BASE), but 65536 at most"
    private static void mostChance() {
        EarlyDrops x = Checks.router("router 9 1;limits 0 1;weight 0;top 49152;gentle 1;flow a 99 50 1 1");
        x.send(0, 2);
        Checks.due("49152 / 16384 is more than 1", "0 0 3 1024 1 65536 " + DRAW_2 + " 2", () -> Checks.decisionOf(x, 0));
        Checks.due("chance() of it", 65536, () -> x.chance(1024, 1));
        x.setTop(32768);
        Checks.due("32768 / 32768 is just 1", 65536, () -> x.chance(1024, 1));
        x.setTop(32767);
        Checks.due("32767 / 32769 is less", 65532, () -> x.chance(1024, 1));
    }

    // "There is a draw, whatever CHANCE is"
    private static void aDrawWhateverChance() {
        EarlyDrops x = Checks.router("router 9 1;limits 0 1;weight 0;top 65536;gentle 1;flow a 99 50 1 1");
        x.send(0, 1);
        Checks.due("CHANCE 0", "0 0 3 0 0 0 " + DRAW_1 + " 0", () -> Checks.decisionOf(x, 0));
        x.send(0, 1);
        Checks.due("CHANCE 65536", "0 0 3 1024 1 65536 " + DRAW_2 + " 2", () -> Checks.decisionOf(x, 0));
        x.send(0, 1);
        Checks.due("behind both", DRAW_3, () -> x.decision(0, 6));
    }

    // "if it is less than CHANCE the packet is marked and let in .. otherwise it is dropped; COUNT becomes 0 then. If the
    // draw is not less, the packet is let in."
    private static void lessThanChance() {
        // with limits 0 4 and 3 packets ahead BASE is TOP * 3 / 4, and CHANCE with COUNT 0 the same
        int[] tops = {44902, 44903};
        String[] due = {"0 0 3 3072 0 33676 33676 0", "0 0 3 3072 0 33677 33676 2"};
        for (int i = 0; i < tops.length; i++) {
            EarlyDrops x = Checks.router("router 9 1;limits 39 40;weight 0;flow a 99 50 1 1");
            x.send(0, 3);
            Checks.run(x, "limits 0 4;top " + tops[i] + ";send a 1;");
            String decision = due[i];
            Checks.due("a draw of 33676 with TOP " + tops[i], decision, () -> Checks.decisionOf(x, 0));
        }
        EarlyDrops y = Checks.router("router 9 1;limits 0 40;top 0;flow a 99 50 1 1");
        y.send(0, 3);
        Checks.due("COUNT goes on as long as they are let in", 2, () -> y.size(10));
    }

    // "the packet is marked and let in, if its flow can be marked"; full and above drop it all the same
    private static void marked() {
        decides(2047, "limits 1 2;", 1, "2 1 3 2047 0 65472 " + DRAW_1 + " 1", 0);
        decides(2048, "limits 1 2;", 1, "1 1 2 2048 0 65536 -1 2", 0);
        EarlyDrops x = near(2047);
        x.setLimits(1, 2);
        x.send(1, 1);
        Checks.due("in the queue, with its mark", "0@0 1@2*", () -> Checks.queueOf(x));
        EarlyDrops y = Checks.router("router 1 1" + CALM + ";flow m 99 50 1 1 marks");
        y.send(0, 2);
        Checks.due("full drops it", "2 0 0 0 1 0 0 0", () -> Checks.accounts(y, 0));
    }

    // "The flow of a packet that is marked or dropped, in whichever of these ways, is told of it."
    private static void whoIsTold() {
        told("limits 1 2;", 2047, 0, "1 0");
        told("limits 1 2;", 2047, 1, "0 1");
        told("limits 1 2;", 2048, 0, "1 0");
        told("limits 1 2;", 2048, 1, "0 1");
        told("send a 7;", 2048, 1, "0 1");
        told("send a 7;", 2048, 0, "1 0");
        told("limits 39 40;", 2047, 0, "0 0");
        told("limits 0 40;top 0;", 2047, 0, "0 0");
    }

    private static void told(String orders, int average, int flow, String due) {
        EarlyDrops x = near(average);
        Checks.run(x, orders);
        x.send(flow, 1);
        Checks.due("told by " + average + " with " + orders + " of " + flow, due, () -> x.flow(0, 7) + " " + x.flow(1, 7));
    }

    private static void ticks() {
        timeFirst();
        byNumber();
        rateLeave();
        emptyThen();
    }

    // "(1) The time grows by 1. (2) .. (3)": what is sent bears the new time, and can leave at once
    private static void timeFirst() {
        EarlyDrops x = Checks.router("router 9 2" + CALM + ";flow a 1 1 3 3");
        x.tick(1);
        Checks.due("the time of those that arrived", "0@1", () -> Checks.queueOf(x));
        Checks.due("two left in the tick in which they came", "3 0 0 0 0 2 0 0", () -> Checks.accounts(x, 0));
        Checks.due("the time in the decision", 1, () -> x.decision(0, 0));
    }

    // "(2) Each flow, by its number, that is to send now sends."
    private static void byNumber() {
        EarlyDrops x = Checks.router("router 9 1" + CALM + ";flow z 2 1 2 2;flow y 2 2 1 1;flow a 1 1 1 1");
        x.tick(1);
        Checks.due("only the one that is to send", 1L, () -> x.account(-1, 0));
        x.tick(1);
        Checks.due("by their numbers, not by name or FIRST", "0@2 1@2 2@2", () -> Checks.queueOf(x));
    }

    // "(3) The first RATE packets of the queue leave, all if there are fewer."
    private static void rateLeave() {
        int[] left = {0, 1, 2, 3, 3, 3};
        for (int waiting = 0; waiting < left.length; waiting++) {
            EarlyDrops x = Checks.router("router 9 3" + CALM + ";flow a 99 50 1 1");
            if (waiting > 0) {
                x.send(0, waiting);
            }
            x.tick(1);
            long due = left[waiting];
            int still = waiting - left[waiting];
            Checks.due("RATE 3 of " + waiting, due, () -> x.account(0, 5));
            Checks.due("RATE 3 leaves of " + waiting, still, () -> x.size(8));
        }
    }

    // "(4) If the queue is empty then, AVERAGE becomes AVERAGE - AVERAGE / 2 to the power of WEIGHT (the quotient rounded
    // down)."
    private static void emptyThen() {
        int[] weights = {0, 1, 2, 5, 9, 10};
        int[] once = {0, 512, 768, 992, 1022, 1023};
        int[] twice = {0, 256, 576, 961, 1021, 1023};
        for (int i = 0; i < weights.length; i++) {
            EarlyDrops x = Checks.router("router 9 2;limits 39 40;weight 0;flow a 99 50 1 1");
            x.send(0, 2);
            x.setWeight(weights[i]);
            x.tick(1);
            int first = once[i];
            int second = twice[i];
            Checks.due("just empty, WEIGHT " + weights[i], first, () -> x.size(9));
            x.tick(1);
            Checks.due("empty before, WEIGHT " + weights[i], second, () -> x.size(9));
        }
        EarlyDrops y = Checks.router("router 9 2;limits 39 40;weight 0;flow a 99 50 1 1");
        y.send(0, 3);
        y.tick(1);
        Checks.due("one waits still", 2048, () -> y.size(9));
    }

    private static void decisions() {
        latest24();
        withoutADraw();
    }

    // "The latest 24 decisions are kept"
    private static void latest24() {
        EarlyDrops x = Checks.router("router 40 9" + CALM + ";flow a 99 50 1 1;flow b 99 50 1 1");
        Checks.due("none at first", 0, () -> x.size(13));
        Checks.index("not even the latest", () -> x.decision(0, 0));
        x.send(1, 1);
        x.send(0, 22);
        Checks.due("23 are kept", 23, () -> x.size(13));
        x.send(0, 1);
        Checks.due("24 are kept", 24, () -> x.size(13));
        Checks.due("the first one still", 1, () -> x.decision(23, 1));
        x.send(0, 1);
        Checks.due("24 at most", 24, () -> x.size(13));
        Checks.due("the first one no longer", 0, () -> x.decision(23, 1));
        Checks.index("no 25th", () -> x.decision(24, 1));
        x.tick(1);
        x.send(0, 40);
        Checks.due("more than 24 at once", "1 1", () -> x.decision(0, 0) + " " + x.decision(23, 0));
    }

    // "COUNT (as between uses it, 1 more already; 0 otherwise), CHANCE (of full and above 65536, of below 0), the draw
    // (NONE without one)"
    private static void withoutADraw() {
        EarlyDrops x = Checks.router("router 4 1;limits 0 40;weight 0;top 0;flow a 99 50 1 1");
        x.send(0, 3);
        Checks.due("between: COUNT is 1 more already", "2 0 " + DRAW_3, () -> drawn(x));
        x.setLimits(39, 40);
        x.send(0, 1);
        Checks.due("below: COUNT is 0, not -1", "0 0 -1", () -> drawn(x));
        x.send(0, 1);
        Checks.due("full", "0 65536 -1", () -> drawn(x));
        x.tick(1);
        x.setLimits(0, 1);
        x.send(0, 1);
        Checks.due("above", "0 65536 -1", () -> drawn(x));
    }

    private static String drawn(EarlyDrops x) {
        return x.decision(0, 4) + " " + x.decision(0, 5) + " " + x.decision(0, 6);
    }
}
