/**
 * The edges that the document names of the calls (Changes, and promises 6 to 43): ahead of each test the sentence that it
 * asks.
 */
public final class EdgesOfCallsTest {
    private static final int LOW = Integer.MIN_VALUE;
    private static final int HIGH = Integer.MAX_VALUE;
    private static final String CALM = ";limits 39 40;weight 10";
    // by turns one and two packets, of which the second finds the queue full, from time 3 on
    private static final String FULL_ONLY = "router 3 1;limits 5 15;weight 0;flow a 1 1 1 3";

    interface Ask {
        Object of(EarlyDrops x, int value);
    }

    public static void main(String[] args) {
        asItIsNow();
        chances();
        whatWillCome();
        changes();
        reports();
        undoing();
        savedStates();
        Checks.end();
    }

    /** Each of these values is refused with that exception, and the call changes nothing. */
    private static void refused(String what, String exception, Ask call, int... values) {
        for (int value : values) {
            EarlyDrops x = Checks.lived();
            Checks.due(what + " of " + value, exception, () -> call.of(x, value));
            Checks.same(what + " of " + value + " changes nothing", Checks.lived(), x);
        }
    }

    private static void noIndex(String what, Ask call, int... values) {
        refused(what, "IndexOutOfBoundsException", call, values);
    }

    private static void noArgument(String what, Ask call, int... values) {
        refused(what, "IllegalArgumentException", call, values);
    }

    /** Each of these values is fine; the answers are not looked at here. */
    private static void taken(String what, Ask call, int... values) {
        for (int value : values) {
            EarlyDrops x = Checks.lived();
            Checks.due(what + " of " + value + " is taken", true, () -> call.of(x, value) != null);
        }
    }

    // ---- as it is now

    private static void asItIsNow() {
        sizes();
        ofFlows();
        untilItSends();
        letters();
        packets();
        accounts();
        marksThatLeft();
        decisions();
        amiss();
        averages();
        lossShare();
        fairness();
        meanWait();
    }

    // 6 "Throws IllegalArgumentException if what is out of range"
    private static void sizes() {
        noArgument("6 size", (x, v) -> x.size(v), -1, 15, LOW, HIGH);
        taken("6 size", (x, v) -> x.size(v), 0, 14);
    }

    // 7 "@throws IndexOutOfBoundsException if there is no such flow. @throws IllegalArgumentException if what is out of range."
    private static void ofFlows() {
        noIndex("7 flow", (x, v) -> x.flow(v, 0), -1, 2, 6, LOW, HIGH);
        noArgument("7 what", (x, v) -> x.flow(0, v), -1, 11, LOW, HIGH);
        noIndex("7 both", (x, v) -> x.flow(v, v), -1, 11);
        taken("7 what", (x, v) -> x.flow(1, v), 0, 10);
        Checks.index("7 without flows", () -> new EarlyDrops().flow(0, 0));
    }

    // 7 "9 in how many ticks from now on it will send, if it is on (1 or more; whether it is on or off)"
    private static void untilItSends() {
        EarlyDrops x = Checks.router("router 9 9" + CALM + ";flow a 1 1 1 1;flow b 2 50 1 1;flow c 99 7 1 1");
        Checks.due("7 ahead of FIRST", "1 2 99", () -> until(x));
        x.tick(1);
        Checks.due("7 not 0 when it has just sent", "1 1 98", () -> until(x));
        x.tick(1);
        Checks.due("7 a whole PERIOD then", "1 50 97", () -> until(x));
        x.setOn(0, false);
        x.setOn(1, false);
        Checks.due("7 off, the same", "1 50 97", () -> until(x));
        x.tick(49);
        Checks.due("7 ahead of the second", "1 1 48", () -> until(x));
        x.tick(1);
        Checks.due("7 when it passed one over", "1 50 47", () -> until(x));
        x.tick(47);
        Checks.due("7 at FIRST", "1 3 7", () -> until(x));
    }

    private static String until(EarlyDrops x) {
        return x.flow(0, 9) + " " + x.flow(1, 9) + " " + x.flow(2, 9);
    }

    // 8 "i from 0 on; NONE if there is none such. @throws IndexOutOfBoundsException if there is no such flow."
    private static void letters() {
        EarlyDrops x = Checks.router("router 9 1;flow abcdefgh 1 1 1 1;flow z 1 1 1 1");
        int[] places = {LOW, -1, 0, 1, 7, 8, HIGH};
        String[] due = {"-1 -1", "-1 -1", "97 122", "98 -1", "104 -1", "-1 -1", "-1 -1"};
        for (int i = 0; i < places.length; i++) {
            int at = places[i];
            Checks.due("8 letter " + at, due[i], () -> x.letter(0, at) + " " + x.letter(1, at));
        }
        noIndex("8 flow", (y, v) -> y.letter(v, 0), -1, 2, LOW, HIGH);
        noIndex("8 both", (y, v) -> y.letter(v, v), -1, 2);
    }

    // 9 "@throws IndexOutOfBoundsException if there is none such. @throws IllegalArgumentException if what is out of range."
    private static void packets() {
        int waiting = Checks.lived().size(8);
        noIndex("9 packet", (x, v) -> x.packet(v, 0), -1, waiting, 39, 40, LOW, HIGH);
        noArgument("9 what", (x, v) -> x.packet(0, v), -1, 3, LOW, HIGH);
        noIndex("9 both", (x, v) -> x.packet(v, v), -1, waiting);
        taken("9 packet", (x, v) -> x.packet(v, 2), 0, waiting - 1);
        Checks.index("9 an empty queue", () -> new EarlyDrops().packet(0, 0));
        EarlyDrops full = Checks.router("router 40 9" + CALM + ";flow a 99 50 1 1");
        full.send(0, 40);
        Checks.due("9 the last of forty", 0, () -> full.packet(39, 0));
        Checks.index("9 no packet 40", () -> full.packet(40, 0));
        full.tick(1);
        Checks.index("9 nine left", () -> full.packet(31, 0));
    }

    // 10 "(of all together for NONE)", "@throws IndexOutOfBoundsException if there is no such flow and it is not NONE"
    private static void accounts() {
        noIndex("10 flow", (x, v) -> x.account(v, 0), -2, 2, 6, LOW, HIGH);
        noArgument("10 what", (x, v) -> x.account(-1, v), -1, 8, LOW, HIGH);
        noIndex("10 both", (x, v) -> x.account(v, v), -2, 8);
        taken("10 what", (x, v) -> x.account(-1, v), 0, 7);
        EarlyDrops x = Checks.lived();
        for (int what = 0; what < 8; what++) {
            int some = what;
            Checks.due("10 all together " + what, x.account(0, what) + x.account(1, what), () -> x.account(-1, some));
        }
        Checks.due("10 all of no flows", "0 0 0 0 0 0 0 0", () -> Checks.accounts(new EarlyDrops(), -1));
        Checks.index("10 no flow 0", () -> new EarlyDrops().account(0, 0));
    }

    // 10 "5 that left, 6 that left with a mark, 7 the sum of the ticks": more than one
    private static void marksThatLeft() {
        EarlyDrops x = Checks.router("router 9 1;limits 39 40;weight 0;top 65536;flow m 99 50 1 1 marks;flow a 99 50 1 1");
        x.send(1, 2);
        // BASE 65536 * 2048 / 3072 is beyond the first draw, and with COUNT 1 CHANCE is 65536
        x.setLimits(0, 3);
        x.send(0, 1);
        x.setLimits(0, 4);
        x.send(0, 1);
        Checks.due("10 two marks", 2L, () -> x.account(0, 1));
        x.tick(2);
        Checks.due("10 none of them left", "2 2 0 0 0 0 0 0", () -> Checks.accounts(x, 0));
        x.tick(1);
        Checks.due("10 one left", "2 2 0 0 0 1 1 3", () -> Checks.accounts(x, 0));
        x.tick(1);
        Checks.due("10 both left", "2 2 0 0 0 2 2 7", () -> Checks.accounts(x, 0));
        Checks.due("10 and those without a mark", "2 0 0 0 0 2 0 3", () -> Checks.accounts(x, 1));
    }

    // 11 "@throws IndexOutOfBoundsException if there is none such that is kept."
    private static void decisions() {
        int kept = Checks.lived().size(13);
        noIndex("11 decision", (x, v) -> x.decision(v, 0), -1, kept, 24, LOW, HIGH);
        noArgument("11 what", (x, v) -> x.decision(0, v), -1, 8, LOW, HIGH);
        noIndex("11 both", (x, v) -> x.decision(v, v), -1, kept);
        taken("11 decision", (x, v) -> x.decision(v, 7), 0, kept - 1);
        Checks.index("11 none is kept", () -> new EarlyDrops().decision(0, 0));
    }

    // 12 "(always 0)"
    private static void amiss() {
        Checks.due("12 none is kept", 0, () -> new EarlyDrops().amiss());
        Checks.due("12 some are", 0, () -> Checks.lived().amiss());
        // a draw that is just CHANCE, and one that is just below it
        for (int top : new int[] {44902, 44903}) {
            EarlyDrops x = Checks.router("router 9 1;limits 39 40;weight 0;flow a 99 50 1 1");
            Checks.run(x, "send a 3;limits 0 4;top " + top + ";send a 1;");
            Checks.due("12 at the edge", 0, x::amiss);
        }
    }

    // 13 "AVERAGE / 1024, both as doubles"
    private static void averages() {
        Checks.due("13 at first", 0.0, () -> new EarlyDrops().average());
        EarlyDrops x = Checks.router("router 40 9;limits 39 40;weight 10;flow a 99 50 1 1");
        x.send(0, 2);
        Checks.due("13 the least", 0.0009765625, x::average);
        x.setWeight(0);
        x.send(0, 38);
        x.send(0, 1);
        Checks.due("13 the most", 40.0, x::average);
    }

    // 14 "0 if none arrived"
    private static void lossShare() {
        Checks.due("14 no flows", 0f, () -> new EarlyDrops().lossShare());
        EarlyDrops x = Checks.router("router 1 1" + CALM + ";flow a 99 50 1 1;flow b 99 50 1 1");
        Checks.due("14 none arrived", 0f, x::lossShare);
        x.send(0, 1);
        Checks.due("14 none was dropped", 0f, x::lossShare);
        x.send(1, 1);
        Checks.due("14 one of two", 0.5f, x::lossShare);
        x.send(0, 1);
        Checks.due("14 two of three, as floats", 0.6666667f, x::lossShare);
    }

    // 15 "1.0 if none left, or there are no flows"
    private static void fairness() {
        Checks.due("15 no flows", 1.0, () -> new EarlyDrops().fairness());
        EarlyDrops x = Checks.router("router 9 1" + CALM + ";flow a 99 50 1 1;flow b 99 50 1 1");
        Checks.due("15 none arrived", 1.0, x::fairness);
        x.send(0, 1);
        x.send(1, 1);
        Checks.due("15 none left", 1.0, x::fairness);
        x.tick(1);
        Checks.due("15 one left", 0.5, x::fairness);
        x.tick(1);
        Checks.due("15 one of each", 1.0, x::fairness);
    }

    // 16 "(of all for NONE)", "0.0 if none left", "@throws IndexOutOfBoundsException if there is no such flow and it is not NONE"
    private static void meanWait() {
        noIndex("16 flow", (x, v) -> x.meanWait(v), -2, 2, LOW, HIGH);
        Checks.due("16 all of no flows", 0.0, () -> new EarlyDrops().meanWait(-1));
        EarlyDrops x = Checks.router("router 9 1" + CALM + ";flow a 99 50 1 1;flow b 1 50 1 1");
        x.send(0, 2);
        Checks.due("16 none left", "0.0 0.0", () -> x.meanWait(0) + " " + x.meanWait(-1));
        x.tick(1);
        Checks.due("16 one left", "1.0 0.0 1.0", () -> x.meanWait(0) + " " + x.meanWait(1) + " " + x.meanWait(-1));
        x.tick(2);
        Checks.due("16 all left", "1.5 2.0 " + 5.0 / 3.0, () -> x.meanWait(0) + " " + x.meanWait(1) + " " + x.meanWait(-1));
        EarlyDrops y = Checks.router("router 9 1" + CALM + ";flow a 1 50 1 1");
        y.tick(1);
        Checks.due("16 it left without a wait", 0.0, () -> y.meanWait(0));
    }

    // ---- chances

    private static void chances() {
        base();
        chance();
        next();
        burst();
        sureBurst();
    }

    // 17 "0 below LOW, 65536 where it would be above, whatever the queue. @param average 0 to 99999."
    private static void base() {
        noArgument("17 average", (x, v) -> x.base(v), -1, 100000, LOW, HIGH);
        EarlyDrops x = Checks.router("router 2 1;limits 3 7;top 1000;flow a 99 50 1 1");
        x.send(0, 2);
        Checks.due("17 the queue is full", 0, x::next);
        int[] averages = {0, 3071, 3072, 3077, 7167, 7168, 14335, 14336, 99999};
        int[] plain = {0, 0, 0, 1, 999, 65536, 65536, 65536, 65536};
        int[] gentle = {0, 0, 0, 1, 999, 1000, 65526, 65536, 65536};
        for (int i = 0; i < averages.length; i++) {
            int average = averages[i];
            Checks.due("17 base of " + average, plain[i], () -> x.base(average));
        }
        x.setGentle(1);
        for (int i = 0; i < averages.length; i++) {
            int average = averages[i];
            Checks.due("17 gentle base of " + average, gentle[i], () -> x.base(average));
        }
        x.setLimits(39, 40);
        Checks.due("17 the highest LOW", "0 0 0 1 999 1000", () -> x.base(0) + " " + x.base(39935) + " " + x.base(39936) + " "
            + x.base(39938) + " " + x.base(40959) + " " + x.base(40960));
        Checks.due("17 twice the highest HIGH", "65534 65536", () -> x.base(81919) + " " + x.base(81920));
    }

    // 18 "@param average 0 to 99999. @param count 0 to 9999."
    private static void chance() {
        noArgument("18 average", (x, v) -> x.chance(v, 0), -1, 100000, LOW, HIGH);
        noArgument("18 count", (x, v) -> x.chance(0, v), -1, 10000, LOW, HIGH);
        EarlyDrops x = Checks.router("router 2 1;limits 1 2;top 65536;gentle 1");
        Checks.due("18 below, of any COUNT", "0 0", () -> x.chance(0, 0) + " " + x.chance(1023, 9999));
        Checks.due("18 above, of any COUNT", "65536 65536", () -> x.chance(4096, 0) + " " + x.chance(99999, 9999));
        Checks.due("18 BASE 64", "64 68 65536", () -> x.chance(1025, 0) + " " + x.chance(1025, 65) + " " + x.chance(1025, 1024));
        Checks.due("18 just below 1024 * 64", 65536, () -> x.chance(1025, 1023));
        Checks.due("18 one below that", 32768, () -> x.chance(1025, 1022));
    }

    // 19 and 20 "0 full, 1 below, 2 above, 3 between", "(of full and above 65536, of below 0)", "likewise" with AVERAGE as it
    // would become
    private static void next() {
        EarlyDrops x = Checks.router("router 4 1;limits 1 2;weight 0;top 65536;flow a 99 50 1 1");
        Checks.due("19 below, 20 of below", "1 0", () -> x.next() + " " + x.nextChance());
        x.send(0, 1);
        Checks.due("19 at LOW, 20 BASE 0", "3 0", () -> x.next() + " " + x.nextChance());
        x.send(0, 1);
        Checks.due("19 at HIGH, 20 of above", "2 65536", () -> x.next() + " " + x.nextChance());
        x.setGentle(1);
        Checks.due("19 gentle at HIGH, 20 TOP", "3 65536", () -> x.next() + " " + x.nextChance());
        x.setLimits(0, 1);
        Checks.due("19 gentle at twice HIGH", "2 65536", () -> x.next() + " " + x.nextChance());
        x.setLimits(39, 40);
        x.send(0, 1);
        Checks.due("19 one place is left", "1 0", () -> x.next() + " " + x.nextChance());
        x.send(0, 1);
        Checks.due("19 full, 20 of full", "0 65536", () -> x.next() + " " + x.nextChance());
        Checks.due("19 nothing arrived", 4L, () -> x.account(0, 0));
    }

    // 21 "@param packets 1 to 60."
    private static void burst() {
        noArgument("21 packets", (x, v) -> x.burst(v), -1, 0, 61, LOW, HIGH);
        EarlyDrops x = Checks.router("router 40 1" + CALM + ";flow a 99 50 1 1");
        Checks.due("21 one", 1.0, () -> x.burst(1));
        Checks.due("21 as many as LIMIT", 1.0, () -> x.burst(40));
        Checks.due("21 one more", 0.0, () -> x.burst(41));
        Checks.due("21 sixty", 0.0, () -> x.burst(60));
        x.send(0, 40);
        Checks.due("21 one, of a full queue", 0.0, () -> x.burst(1));
        // COUNT is -1 behind each that is below: BASE of the third is 32768, and so is its CHANCE
        EarlyDrops y = Checks.router("router 9 1;limits 2 3;weight 0;top 65536;gentle 1;flow a 99 50 1 1");
        Checks.due("21 two below and one with CHANCE 0", 1.0, () -> y.burst(3));
        Checks.due("21 the next at HIGH", 0.0, () -> y.burst(4));
        y.setTop(32768);
        Checks.due("21 COUNT is 1 there: CHANCE 65536", 0.0, () -> y.burst(4));
        y.setTop(16384);
        Checks.due("21 COUNT is 1 there: CHANCE 21845", (65536 - 21845) / 65536.0, () -> y.burst(4));
    }

    // 22 "the greatest number of packets (0 to 60) of which burst() is at least the quotient of percent and 100 ..; 0 if there
    // is none. @param percent 1 to 100."
    private static void sureBurst() {
        noArgument("22 percent", (x, v) -> x.sureBurst(v), -1, 0, 101, LOW, HIGH);
        EarlyDrops x = Checks.router("router 40 1" + CALM + ";flow a 99 50 1 1");
        Checks.due("22 as many as LIMIT", "40 40", () -> x.sureBurst(1) + " " + x.sureBurst(100));
        x.send(0, 39);
        Checks.due("22 one", "1 1", () -> x.sureBurst(1) + " " + x.sureBurst(100));
        x.send(0, 1);
        Checks.due("22 none", "0 0", () -> x.sureBurst(1) + " " + x.sureBurst(100));
        // BASE at HIGH is TOP, of the first packet and with COUNT 0: burst(1) is just 3 quarters
        EarlyDrops y = Checks.router("router 9 1;limits 39 40;weight 0;top 16384;gentle 1;flow a 99 50 1 1");
        y.send(0, 1);
        y.setLimits(0, 1);
        Checks.due("22 just 75", "0.75 1 0", () -> y.burst(1) + " " + y.sureBurst(75) + " " + y.sureBurst(76));
    }

    // ---- what will come

    private static void whatWillCome() {
        ranges();
        inNoTicks();
        inTwoHundred();
        longest();
        dropIn();
        fewestIsTheLowest();
        fewestIsTheHighest();
        gain();
        nothingChanges();
    }

    // 23 to 31 "@param ticks 0 to 200", "1 to 200", "1 to 100"
    private static void ranges() {
        noIndex("23 flow", (x, v) -> x.accountIn(v, 0, 0), -2, 2, LOW, HIGH);
        noArgument("23 what", (x, v) -> x.accountIn(-1, v, 0), -1, 8, LOW, HIGH);
        noArgument("23 ticks", (x, v) -> x.accountIn(0, 0, v), -1, 201, LOW, HIGH);
        noIndex("23 all", (x, v) -> x.accountIn(v, v, v), -2, 201);
        taken("23 ticks", (x, v) -> x.accountIn(-1, 7, v), 0, 200);
        noArgument("24 ticks", (x, v) -> x.queueIn(v), -1, 201, LOW, HIGH);
        taken("24 ticks", (x, v) -> x.queueIn(v), 0, 200);
        noArgument("25 ticks", (x, v) -> x.averageIn(v), -1, 201, LOW, HIGH);
        taken("25 ticks", (x, v) -> x.averageIn(v), 0, 200);
        noIndex("26 flow", (x, v) -> x.windowIn(v, 0), -1, 2, LOW, HIGH);
        noArgument("26 ticks", (x, v) -> x.windowIn(1, v), -1, 201, LOW, HIGH);
        noIndex("26 both", (x, v) -> x.windowIn(v, v), -1, 201);
        taken("26 ticks", (x, v) -> x.windowIn(1, v), 0, 200);
        noArgument("27 ticks", (x, v) -> x.longest(v), -1, 0, 201, LOW, HIGH);
        taken("27 ticks", (x, v) -> x.longest(v), 1, 200);
        noArgument("29 ticks", (x, v) -> x.bestWeight(v), -1, 0, 101, LOW, HIGH);
        taken("29 ticks", (x, v) -> x.bestWeight(v), 1, 100);
        noArgument("30 ticks", (x, v) -> x.bestTop(v), -1, 0, 101, LOW, HIGH);
        taken("30 ticks", (x, v) -> x.bestTop(v), 1, 100);
        noArgument("31 ticks", (x, v) -> x.gain(v), -1, 0, 201, LOW, HIGH);
        taken("31 ticks", (x, v) -> x.gain(v), 1, 200);
    }

    // 23 to 26 "@param ticks 0 ..": nothing has come yet
    private static void inNoTicks() {
        EarlyDrops x = Checks.lived();
        for (int what = 0; what < 8; what++) {
            int some = what;
            Checks.due("23 of none", 0L, () -> x.accountIn(-1, some, 0));
        }
        Checks.due("24 as now", x.size(8), () -> x.queueIn(0));
        Checks.due("25 as now", x.size(9), () -> x.averageIn(0));
        Checks.due("26 as now", x.flow(0, 6) + " " + x.flow(1, 6), () -> x.windowIn(0, 0) + " " + x.windowIn(1, 0));
        EarlyDrops none = new EarlyDrops();
        Checks.due("23 to 27 without flows", "0 0 0 0 -1 0 0 0", () -> none.accountIn(-1, 0, 200) + " " + none.queueIn(200) + " "
            + none.averageIn(200) + " " + none.longest(200) + " " + none.dropIn() + " " + none.bestWeight(100) + " "
            + none.bestTop(100) + " " + none.gain(200));
    }

    // 23 to 26 "@param ticks .. 200": as four times 50 ticks bring it
    private static void inTwoHundred() {
        EarlyDrops x = Checks.lived();
        EarlyDrops y = Checks.lived();
        for (int i = 0; i < 4; i++) {
            y.tick(50);
        }
        for (int what = 0; what < 8; what++) {
            int some = what;
            Checks.due("23 in 200", y.account(0, what) - x.account(0, what), () -> x.accountIn(0, some, 200));
            Checks.due("23 of all in 200", y.account(-1, what) - x.account(-1, what), () -> x.accountIn(-1, some, 200));
        }
        Checks.due("24 in 200", y.size(8), () -> x.queueIn(200));
        Checks.due("25 in 200", y.size(9), () -> x.averageIn(200));
        Checks.due("26 in 200", y.flow(0, 6), () -> x.windowIn(0, 200));
    }

    // 27 "The greatest number of packets in the queue behind any of the next ticks. @param ticks 1 to 200."
    private static void longest() {
        EarlyDrops x = Checks.router("router 40 1" + CALM + ";flow a 50 50 9 9;flow b 99 50 1 1");
        x.send(1, 5);
        Checks.due("27 not the queue now", 4, () -> x.longest(1));
        Checks.due("27 behind any of them, not the last", 4, () -> x.longest(30));
        Checks.due("27 behind the last", "4 8", () -> x.longest(49) + " " + x.longest(50));
        EarlyDrops y = Checks.router("router 9 9" + CALM + ";flow a 1 1 9 9");
        Checks.due("27 behind the ticks, not within", 0, () -> y.longest(200));
        // at 3 and 53 and so on 4, 5, 6 and 7 packets come
        EarlyDrops z = Checks.router("router 9 1" + CALM + ";flow a 50 50 4 9");
        Checks.due("27 the 200th tick", "5 6", () -> z.longest(199) + " " + z.longest(200));
    }

    // 28 "behind how many ticks (1 to 200) a packet is dropped (in whichever way; not marked) for the first time; NONE if none is
    // within them"
    private static void dropIn() {
        EarlyDrops now = Checks.router("router 1 1" + CALM + ";flow a 1 1 2 2");
        Checks.due("28 in the next", 1, now::dropIn);
        // the fifth sending, of 5 packets, is the first that LIMIT 4 has no place for
        EarlyDrops far = Checks.router("router 4 9" + CALM + ";flow a 1 50 1 9");
        Checks.due("28 in 201 is none", -1, far::dropIn);
        far.tick(1);
        Checks.due("28 in 200", 200, far::dropIn);
        far.tick(1);
        Checks.due("28 in 199", 199, far::dropIn);
        Checks.due("28 none", -1, () -> Checks.router("router 4 9" + CALM + ";flow a 1 1 4 4").dropIn());
        Checks.due("28 as full", 3, () -> Checks.router(FULL_ONLY).dropIn());
        Checks.due("28 as above", 1, () -> Checks.router("router 9 9;limits 0 1;weight 0;top 0;flow a 1 1 2 2").dropIn());
        // BASE 0, then TOP / 2 with COUNT 1: sure
        Checks.due("28 as between", 1, () -> Checks.router("router 9 9;limits 0 2;weight 0;top 65536;flow a 1 1 2 2").dropIn());
        Checks.due("28 not marked", -1, () -> Checks.router("router 9 9;limits 0 2;weight 0;top 65536;flow a 1 1 2 2 marks").dropIn());
        EarlyDrops before = Checks.router("router 1 1" + CALM + ";flow a 99 50 1 1");
        before.send(0, 2);
        Checks.due("28 not what was dropped before", -1, before::dropIn);
    }

    // 29 and 30 "of several the lowest one"
    private static void fewestIsTheLowest() {
        EarlyDrops x = Checks.router("router 9 1" + CALM + ";flow a 1 1 1 1");
        Checks.due("29 no drops with any", "0 0", () -> x.bestWeight(1) + " " + x.bestWeight(100));
        Checks.due("30 no drops with any", "0 0", () -> x.bestTop(1) + " " + x.bestTop(100));
        EarlyDrops y = Checks.router("router 1 1" + CALM + ";flow a 1 1 3 3");
        Checks.due("29 the same drops with any", 0, () -> y.bestWeight(1));
        Checks.due("30 the same drops with any", 0, () -> y.bestTop(1));
    }

    // 29 "the WEIGHT (0 to 10)", 30 "the TOP, of 0, 4096, 8192 and so on up to 65536"
    private static void fewestIsTheHighest() {
        // 36 packets; with WEIGHT 9 AVERAGE comes to more than 1024, with 10 only to some 600
        EarlyDrops x = Checks.router("router 40 1;limits 0 1;top 0;weight 3;flow a 1 1 9 9;flow b 1 1 9 9;flow c 1 1 9 9;flow d 1 1 9 9");
        x.setWeight(9);
        Checks.due("29 with 9 some are dropped", true, () -> x.accountIn(-1, 3, 1) > 0);
        x.setWeight(10);
        Checks.due("29 with 10 none", 0L, () -> x.accountIn(-1, 3, 1));
        x.setWeight(0);
        Checks.due("29 only 10", 10, () -> x.bestWeight(1));
        Checks.due("29 WEIGHT stays", 0, () -> x.size(5));
        // BASE of the first packet is TOP * 8 / 15: more than its draw 33676 with TOP 65536, 32768 with 61440. Only a mark keeps
        // WINDOW at 1, and only a WINDOW of 1 finds a place.
        EarlyDrops y = Checks.router("router 9 1;limits 39 40;weight 0;flow a 99 50 1 1;flow m 1 1 1 9 marks");
        y.send(0, 8);
        y.setLimits(0, 15);
        y.setTop(61440);
        Checks.due("30 with 61440 one is dropped", 1L, () -> y.accountIn(-1, 4, 2));
        y.setTop(65536);
        Checks.due("30 with 65536 none", 0L, () -> y.accountIn(-1, 4, 2));
        y.setTop(5);
        Checks.due("30 only 65536", 65536, () -> y.bestTop(2));
        Checks.due("30 TOP stays", 5, () -> y.size(4));
        Checks.due("30 in one tick none with any", 0, () -> y.bestTop(1));
    }

    // 31 "how many packets fewer are dropped in some ticks than without early drops ..; perhaps negative"
    private static void gain() {
        EarlyDrops none = Checks.router("router 9 9" + CALM + ";flow a 1 1 1 9");
        Checks.due("31 no early drops", "0 0", () -> none.gain(1) + " " + none.gain(200));
        Checks.due("31 full alone", 0L, () -> Checks.router(FULL_ONLY).gain(200));
        // without them 3 of 9 find a place, with them 1
        EarlyDrops fewer = Checks.router("router 3 1;limits 0 1;weight 0;flow a 1 1 9 9");
        Checks.due("31 negative", -2L, () -> fewer.gain(1));
        // without a mark WINDOW becomes 2, and the queue is full for one of them
        EarlyDrops more = Checks.router("router 9 1;limits 39 40;weight 0;top 65536;flow a 99 50 1 1;flow m 1 1 1 9 marks");
        more.send(0, 8);
        more.setLimits(0, 15);
        Checks.due("31 nothing in one tick", 0L, () -> more.gain(1));
        Checks.due("31 positive", 1L, () -> more.gain(2));
    }

    // "(nothing changes)"
    private static void nothingChanges() {
        EarlyDrops x = Checks.lived();
        x.accountIn(-1, 2, 200);
        x.queueIn(200);
        x.averageIn(200);
        x.windowIn(0, 200);
        x.longest(200);
        x.dropIn();
        x.bestWeight(100);
        x.bestTop(100);
        x.gain(200);
        x.base(9);
        x.chance(9, 9);
        x.next();
        x.nextChance();
        x.burst(60);
        x.sureBurst(1);
        Checks.same("17 to 31 change nothing", Checks.lived(), x);
        Checks.due("nor what can be undone", 1, x::undo);
    }

    // ---- changes

    private static void changes() {
        tick();
        send();
        settings();
        setOn();
        parametersFirst();
        refusedByCode();
        recorded();
    }

    // 32 "@param ticks 1 to 50. @return the time then; -2 if it would exceed 9999."
    private static void tick() {
        noArgument("32 ticks", (x, v) -> x.tick(v), -1, 0, 51, LOW, HIGH);
        EarlyDrops x = new EarlyDrops();
        Checks.due("32 one", 1, () -> x.tick(1));
        Checks.due("32 fifty", 51, () -> x.tick(50));
        EarlyDrops y = at9990();
        Checks.due("32 10000", -2, () -> y.tick(10));
        Checks.due("32 far beyond", -2, () -> y.tick(50));
        Checks.due("32 no part of it", 9990, () -> y.size(7));
        Checks.due("32 just 9999", 9999, () -> y.tick(9));
        Checks.due("32 none behind it", -2, () -> y.tick(1));
    }

    private static EarlyDrops at9990() {
        EarlyDrops x = Checks.router("router 9 9" + CALM + ";flow a 99 50 1 9");
        for (int i = 0; i < 4; i++) {
            Checks.run(x, "again 20(tick 50;tick 50;);");
        }
        Checks.run(x, "again 19(tick 50;tick 50;);tick 50;tick 40;");
        return x;
    }

    // 33 "@param packets 1 to 40. @return how many were let in, with those that were marked.", "whether it is on or off"
    private static void send() {
        noIndex("33 flow", (x, v) -> x.send(v, 1), -1, 2, LOW, HIGH);
        noArgument("33 packets", (x, v) -> x.send(0, v), -1, 0, 41, LOW, HIGH);
        noIndex("33 both", (x, v) -> x.send(v, v), -1, 41);
        EarlyDrops x = Checks.router("router 40 1" + CALM + ";flow a 99 50 1 1");
        Checks.due("33 one", 1, () -> x.send(0, 1));
        Checks.due("33 39 of forty", 39, () -> x.send(0, 40));
        Checks.due("33 none is no error", 0, () -> x.send(0, 40));
        Checks.due("33 recorded", 3, () -> x.size(14));
        Checks.due("33 none of no flows", "IndexOutOfBoundsException", () -> new EarlyDrops().send(0, 1));
        EarlyDrops off = Checks.router("router 9 1" + CALM + ";flow a 99 50 1 1");
        off.setOn(0, false);
        Checks.due("33 off", 2, () -> off.send(0, 2));
        EarlyDrops marked = Checks.router("router 9 1;limits 0 2;weight 0;top 65536;flow m 99 50 1 1 marks");
        Checks.due("33 the second is marked", 2, () -> marked.send(0, 2));
        Checks.due("33 as told", 1L, () -> marked.account(0, 1));
    }

    // 34 to 37 "@param min 0 to 39. @param max min + 1 to 40.", "@param top 0 to 65536.", "@param weight 0 to 10.", "if gentle is
    // not 0 or 1"
    private static void settings() {
        noArgument("34 min", (x, v) -> x.setLimits(v, 40), -1, 40, LOW, HIGH);
        noArgument("34 max", (x, v) -> x.setLimits(7, v), -1, 0, 6, 7, 41, LOW, HIGH);
        noArgument("34 both", (x, v) -> x.setLimits(v, v + 1), -1, 40, LOW, HIGH);
        for (int min = 0; min <= 39; min++) {
            EarlyDrops x = new EarlyDrops();
            int some = min;
            Checks.due("34 the narrowest", 515, () -> x.setLimits(some, some + 1));
            Checks.due("34 the widest", 101 * min + 1, () -> x.setLimits(some, 40));
            Checks.due("34 as set", min + " 40", () -> x.size(2) + " " + x.size(3));
        }
        noArgument("35 top", (x, v) -> x.setTop(v), -1, 65537, LOW, HIGH);
        noArgument("36 weight", (x, v) -> x.setWeight(v), -1, 11, LOW, HIGH);
        noArgument("37 gentle", (x, v) -> x.setGentle(v), -1, 2, LOW, HIGH);
        EarlyDrops x = new EarlyDrops();
        Checks.due("35 the highest, the lowest", "6554 65536 0", () -> x.setTop(65536) + " " + x.setTop(0) + " " + x.setTop(0));
        Checks.due("36 the highest, the lowest", "4 10 0", () -> x.setWeight(10) + " " + x.setWeight(0) + " " + x.setWeight(0));
        Checks.due("37 both", "0 1 0", () -> x.setGentle(1) + " " + x.setGentle(0) + " " + x.setGentle(0));
    }

    // 38 "@return the flows that are on then; -3 if it is so already. @throws IndexOutOfBoundsException if there is no such flow"
    private static void setOn() {
        noIndex("38 flow", (x, v) -> x.setOn(v, false), -1, 2, LOW, HIGH);
        noIndex("38 flow, on", (x, v) -> x.setOn(v, true), -1, 2);
        EarlyDrops x = Checks.lived();
        Checks.due("38 it is on already", -3, () -> x.setOn(0, true));
        Checks.due("38 one is on", 1, () -> x.setOn(0, false));
        Checks.due("38 it is off already", -3, () -> x.setOn(0, false));
        Checks.due("38 none is on", 0, () -> x.setOn(1, false));
        Checks.due("38 one again", 1, () -> x.setOn(1, true));
        Checks.due("38 both again", 2, () -> x.setOn(0, true));
        Checks.same("38 all else of them stays", withFourChanges(), x);
    }

    /** As lived(), with four changes more that change nothing but their number. */
    private static EarlyDrops withFourChanges() {
        EarlyDrops x = Checks.lived();
        for (int i = 0; i < 4; i++) {
            x.setTop(65536);
        }
        return x;
    }

    // "Parameters are checked first, in their order; IndexOutOfBoundsException ahead of IllegalArgumentException, both ahead of
    // error codes."
    private static void parametersFirst() {
        EarlyDrops x = at9990();
        Checks.argument("ahead of -2", () -> x.tick(51));
        Checks.argument("ahead of -2 too", () -> x.tick(0));
        Checks.index("ahead of -3", () -> x.setOn(1, true));
        Checks.argument("both limits", () -> x.setLimits(40, 40));
        Checks.index("26 ahead of ticks", () -> x.windowIn(1, -1));
        Checks.index("23 ahead of what and ticks", () -> x.accountIn(1, 9, -1));
        Checks.index("33 ahead of packets", () -> x.send(1, 0));
        Checks.argument("43 ahead of NONE", () -> x.restore(2));
    }

    // "A call that throws an exception or returns a negative error code changes nothing"
    private static void refusedByCode() {
        EarlyDrops x = at9990();
        x.tick(10);
        x.tick(50);
        x.setOn(0, true);
        Checks.same("-2 and -3", at9990(), x);
        EarlyDrops y = Checks.lived();
        y.setOn(0, true);
        y.setOn(1, true);
        Checks.same("-3", Checks.lived(), y);
        Checks.due("nor are they to be undone", 1, y::undo);
    }

    // "Every other call of these is recorded": also one that makes no difference
    private static void recorded() {
        EarlyDrops x = Checks.router("router 1 1" + CALM + ";flow a 99 50 1 1");
        x.tick(1);
        x.send(0, 2);
        x.setLimits(39, 40);
        x.setTop(6554);
        x.setWeight(10);
        x.setGentle(0);
        x.setOn(0, false);
        Checks.due("seven of them", 7, () -> x.size(14));
        x.run();
        Checks.due("and run", 8, () -> x.size(14));
        x.report();
        x.save(0);
        x.feed(1, 2, 3, 4, 5);
        Checks.due("no other call", 7, x::undo);
    }

    // ---- reports

    private static void reports() {
        reportsOfFew();
        reportsOfMany();
        reportBytes();
    }

    // 39 "with a space between two; then a vertical bar (.. with a space ahead of it if there are flows) and the queue"
    private static void reportsOfFew() {
        Checks.due("39 no flows, no queue", "|", () -> Checks.reported(new EarlyDrops()));
        EarlyDrops one = Checks.router("router 2 1" + CALM + ";flow abcdefgh 99 50 1 1");
        Checks.due("39 one flow, no queue", "abcdefgh:0/0 |", () -> Checks.reported(one));
        one.send(0, 2);
        Checks.due("39 not told", "abcdefgh:2/0 |00", () -> Checks.reported(one));
        one.send(0, 1);
        Checks.due("39 told", "abcdefgh:3/0! |00", () -> Checks.reported(one));
        one.tick(2);
        Checks.due("39 the queue is empty again", "abcdefgh:3/2! |", () -> Checks.reported(one));
    }

    // 39 "for each flow, from 0 on, .. the queue from the first packet on, for each one the number of its flow and an asterisk"
    private static void reportsOfMany() {
        StringBuilder setup = new StringBuilder("router 40 9" + CALM);
        for (char name = 'a'; name <= 'f'; name++) {
            setup.append(";flow ").append(name).append(name).append(" 99 50 1 1 marks");
        }
        EarlyDrops six = Checks.router(setup.toString());
        for (int flow = 0; flow < 6; flow++) {
            six.send(flow, 6);
        }
        Checks.due("39 six flows", "aa:6/0 bb:6/0 cc:6/0 dd:6/0 ee:6/0 ff:6/0 |000000111111222222333333444444555555",
            () -> Checks.reported(six));
        Checks.run(six, "limits 0 40;weight 0;top 65536;send ff 40;");
        // BASE is 65536 * 36 / 40, more than the first draw; with COUNT 1 CHANCE is 65536
        Checks.due("39 marks, of a full queue", "aa:6/0 bb:6/0 cc:6/0 dd:6/0 ee:6/0 ff:46/0! |"
            + "0000001111112222223333334444445555555*5*5*5*", () -> Checks.reported(six));
    }

    // 40 "byte i of the latest report; NONE if there is none such"
    private static void reportBytes() {
        EarlyDrops x = new EarlyDrops();
        Checks.due("40 no report", "-1 -1", () -> x.reportByte(0) + " " + x.reportByte(-1));
        Checks.due("39 one byte", 1, x::report);
        Checks.due("40 of one byte", "-1 124 -1 -1 -1", () -> x.reportByte(-1) + " " + x.reportByte(0) + " " + x.reportByte(1) + " "
            + x.reportByte(LOW) + " " + x.reportByte(HIGH));
        EarlyDrops y = Checks.router("router 9 1" + CALM + ";flow a 99 50 1 1");
        y.send(0, 3);
        Checks.due("39 its length", 10, y::report);
        y.tick(3);
        Checks.due("40 the latest, as it was", "48 -1", () -> y.reportByte(9) + " " + y.reportByte(10));
        Checks.due("39 a shorter one", 7, y::report);
        Checks.due("40 nothing of the one before", "124 -1", () -> y.reportByte(6) + " " + y.reportByte(7));
    }

    // ---- undo

    private static void undoing() {
        nothingToUndo();
        eight();
        eachChange();
        whatStays();
        twoUndos();
    }

    // 41 "NONE if there was nothing to undo"
    private static void nothingToUndo() {
        EarlyDrops x = new EarlyDrops();
        Checks.due("41 nothing", -1, x::undo);
        x.setTop(1);
        Checks.due("41 one", 0, x::undo);
        Checks.due("41 nothing any more", -1, x::undo);
        Checks.same("41 and nothing changes", new EarlyDrops(), x);
    }

    // "The 8 most recent changes can be undone, the most recent one first."
    private static void eight() {
        for (int changes = 1; changes <= 20; changes++) {
            EarlyDrops x = new EarlyDrops();
            for (int top = 1; top <= changes; top++) {
                x.setTop(top);
            }
            int kept = changes < 8 ? changes : 8;
            Checks.due("41 kept of " + changes, kept, () -> x.size(14));
            for (int still = kept - 1; still >= 0; still--) {
                Checks.due("41 still of " + changes, still, x::undo);
                int top = changes - kept + still;
                Checks.due("41 TOP as before", top == 0 ? 6554 : top, () -> x.size(4));
            }
            Checks.due("41 no ninth of " + changes, -1, x::undo);
        }
    }

    // "Undoing restores everything": of each kind of change
    private static void eachChange() {
        String[] kinds = {"tick", "send", "setLimits", "setTop", "setWeight", "setGentle", "setOn", "run"};
        for (int kind = 0; kind < kinds.length; kind++) {
            EarlyDrops x = Checks.lived();
            change(x, kind);
            Checks.due("41 can be undone: " + kinds[kind], 3, () -> x.size(14));
            Checks.due("41 undone: " + kinds[kind], 2, x::undo);
            Checks.same("41 " + kinds[kind], Checks.lived(), x);
        }
    }

    private static void change(EarlyDrops x, int kind) {
        switch (kind) {
            case 0: x.tick(50); break;
            case 1: x.send(0, 40); break;
            case 2: x.setLimits(38, 40); break;
            case 3: x.setTop(7); break;
            case 4: x.setWeight(7); break;
            case 5: x.setGentle(0); break;
            case 6: x.setOn(1, false); break;
            default: Checks.run(x, "tick 9;send m 9;limits 1 2;top 1;weight 1;gentle 0;stop a;"); break;
        }
    }

    // "everything but the buffer, the error position, the report and the saved states"
    private static void whatStays() {
        EarlyDrops x = Checks.lived();
        x.setTop(7);
        Checks.run(x, "tip");
        x.report();
        x.save(1);
        x.feed('t', 'i', 'p', 0, 0);
        x.undo();
        Checks.due("41 the buffer", 3, () -> x.feed(0, 0, 0, 0, 0));
        Checks.due("41 the error position", 0, x::errorPosition);
        Checks.due("41 the report", (int) 'a', () -> x.reportByte(0));
        Checks.due("41 TOP is as before", 65536, () -> x.size(4));
        Checks.due("41 the saved states", 5, () -> x.restore(1));
        Checks.due("41 as they were saved", 7, () -> x.size(4));
    }

    // 41 "the number of changes that can still be undone", with new changes amid them
    private static void twoUndos() {
        EarlyDrops x = new EarlyDrops();
        x.setTop(1);
        x.setTop(2);
        x.undo();
        x.setTop(3);
        Checks.due("41 two can be", 2, () -> x.size(14));
        Checks.due("41 the newest", "1 1", () -> x.undo() + " " + x.size(4));
        Checks.due("41 then the oldest", "0 6554", () -> x.undo() + " " + x.size(4));
    }

    // ---- saved states

    private static void savedStates() {
        slots();
        nothingSaved();
        restored();
        inPlace();
        nothingUndone();
    }

    // 42 and 43 "@param slot 0 or 1. .. @throws IllegalArgumentException if slot is out of range"
    private static void slots() {
        noArgument("42 slot", (x, v) -> x.save(v), -1, 2, LOW, HIGH);
        noArgument("43 slot", (x, v) -> x.restore(v), -1, 2, LOW, HIGH);
        EarlyDrops x = Checks.lived();
        Checks.due("42 the time", "5 5", () -> x.save(0) + " " + x.save(1));
        Checks.due("43 the time then", "5 5", () -> x.restore(0) + " " + x.restore(1));
    }

    // 43 "NONE, and nothing changes, if nothing was saved there"
    private static void nothingSaved() {
        EarlyDrops x = Checks.lived();
        Checks.due("43 nothing in slot 1", -1, () -> x.restore(1));
        Checks.same("43 nothing changes", Checks.lived(), x);
        Checks.due("43 nor what can be undone", 1, x::undo);
        Checks.due("43 nothing in a new one", "-1 -1", () -> new EarlyDrops().restore(0) + " " + new EarlyDrops().restore(1));
    }

    // 43 "Brings back what was saved in a slot, which stays"
    private static void restored() {
        EarlyDrops x = Checks.lived();
        EarlyDrops y = Checks.lived();
        x.undo();
        x.undo();
        x.tick(9);
        x.restore(0);
        Checks.run(x, "tick 30;send a 9;limits 38 40;top 0;stop m;");
        Checks.due("43 it stays, whatever comes", 5, () -> x.restore(0));
        y.restore(0);
        Checks.same("43 as at once", y, x);
        EarlyDrops z = Checks.router("router 9 1;limits 0 3;weight 0;top 65536;gentle 1;flow a 1 2 3 9;flow m 2 3 2 9 marks");
        Checks.run(z, "tick 5;");
        z.save(1);
        z.restore(1);
        Checks.same("43 as it was when it was saved", z, x);
    }

    // 42 "in place of what was saved in this slot"
    private static void inPlace() {
        EarlyDrops x = Checks.lived();
        x.tick(2);
        Checks.due("42 in place", 7, () -> x.save(0));
        x.tick(2);
        Checks.due("42 in the other one", 9, () -> x.save(1));
        Checks.due("43 both", "7 9 7", () -> x.restore(0) + " " + x.restore(1) + " " + x.restore(0));
    }

    // 43 "nothing can be undone afterwards"
    private static void nothingUndone() {
        EarlyDrops x = Checks.lived();
        x.restore(0);
        Checks.due("43 nothing", "0 -1", () -> x.size(14) + " " + x.undo());
        x.tick(1);
        Checks.due("43 what comes then can be", "0 5", () -> x.undo() + " " + x.size(7));
        EarlyDrops y = Checks.lived();
        y.save(1);
        Checks.due("42 save leaves what can be undone", 1, y::undo);
    }
}
