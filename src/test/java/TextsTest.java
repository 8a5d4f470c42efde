/** Promises 1 to 5: a new object, the buffer, setups, scripts, errors. */
public final class TextsTest {
    private static final String TWO = "router 9 1; flow a 5 9 1 9; flow b 6 9 1 9";

    public static void main(String[] args) {
        newObject();
        feed();
        loadReads();
        loadReplaces();
        loadErrors();
        loadRanges();
        runDoes();
        runEnds();
        runErrors();
        errorPosition();
        Checks.end();
    }

    private static void newObject() {
        EarlyDrops x = new EarlyDrops();
        Checks.due("1 sizes", "20 1 5 15 6554 4 0 0 0 0 -1 0 0 0 0 ", () -> Checks.sizes(x));
        EarlyDrops y = new EarlyDrops();
        Checks.due("1 load of the text", 0, () -> Checks.load(y, "router 20 1"));
        Checks.due("1 as by the text", Checks.sizes(x), () -> Checks.sizes(y));
        Checks.due("1 empty buffer", 1, () -> x.feed(0, 0, 32, 0, 0));
        Checks.due("1 errorPosition", -1, x::errorPosition);
        Checks.due("1 nothing to undo", -1, x::undo);
        Checks.due("1 nothing saved", -1, () -> x.restore(0));
        Checks.due("1 no report", -1, () -> x.reportByte(0));
        Checks.due("1 NONE", -1, () -> EarlyDrops.NONE);
    }

    private static void feed() {
        EarlyDrops x = new EarlyDrops();
        Checks.due("2 nothing", 0, () -> x.feed(0, 0, 0, 0, 0));
        Checks.due("2 bytes that are 0", 3, () -> x.feed(0x72000000, 0, 0x006f0000, 0, 0x75));
        Checks.due("2 all of five", 23, () -> x.feed(0x74657220, 0x30303030, 0x30322031, 0x3b746f70, 0x20303131));
        Checks.due("2 in order, the most significant first", 0, x::load);
        Checks.due("2 LIMIT told so", 2, () -> x.size(0));
        Checks.due("2 RATE told so", 1, () -> x.size(1));
        Checks.due("2 TOP told so", 11, () -> x.size(4));
        EarlyDrops y = new EarlyDrops();
        for (int i = 1; i < 25; i++) {
            int bytes = 20 * i;
            Checks.due("2 signed", bytes, () -> y.feed(-1, -1, 0x80808080, 0x20202020, 0x41414141));
        }
        Checks.due("2 up to 499", 499, () -> y.feed(-1, -1, -1, -1, 0xffffff));
        Checks.due("2 beyond 500", -1, () -> y.feed(0x2020, 0, 0, 0, 0));
        Checks.due("2 beyond 500 by the first", -1, () -> y.feed(0x20200000, 0, 0, 0, 0));
        Checks.due("2 beyond 500 by the second", -1, () -> y.feed(0, 0x2020, 0, 0, 0));
        Checks.due("2 beyond 500 by the third", -1, () -> y.feed(0, 0, 0x20002000, 0, 0));
        Checks.due("2 beyond 500 by the fourth", -1, () -> y.feed(0, 0, 0, 0x200020, 0));
        Checks.due("2 beyond 500 by two of them", -1, () -> y.feed(0, 32, 32, 0, 0));
        Checks.due("2 beyond 500 by the last", -1, () -> y.feed(32, 0, 0, 0, 32));
        Checks.due("2 nothing was appended", 500, () -> y.feed(0, 0, 0, 0, 32));
        Checks.due("2 zeros always fit", 500, () -> y.feed(0, 0, 0, 0, 0));
        Checks.due("2 full", -1, () -> y.feed(0, 0, 0, 0, 1));
        y.load();
        Checks.due("2 empty again", 1, () -> y.feed(1, 0, 0, 0, 0));
    }

    private static void loadReads() {
        EarlyDrops x = new EarlyDrops();
        Checks.due("3 all statements", 2, () -> Checks.load(x, "router 007 3;limits 2 9;top 65536;weight 0\n;gentle 1;"
            + "seed 0;flow web 99 50 2 9 marks ; flow abcdefgh 1 1 9 9"));
        Checks.due("3 sizes", "7 3 2 9 65536 0 1 0 0 0 -1 2 2 0 0 ", () -> Checks.sizes(x));
        Checks.due("3 flow 0", "99 50 2 9 1 1 2 0 0 99 0", () -> Checks.flowOf(x, 0));
        Checks.due("3 flow 1", "1 1 9 9 0 1 9 0 0 1 0", () -> Checks.flowOf(x, 1));
        Checks.due("3 tokens need no blanks", 1, () -> Checks.load(x, "router20 1;flow flow1 1 1 1marks"));
        Checks.due("3 no blanks, LIMIT", 20, () -> x.size(0));
        Checks.due("3 keywords can be names", 3, () ->
            Checks.load(x, "router 1 1;flow marks 1 1 1 1;flow flow 1 1 1 1 marks;flow router 1 1 1 1"));
        Checks.due("3 marks is a name here", 0, () -> x.flow(0, 4));
        Checks.due("3 marks is told here", 1, () -> x.flow(1, 4));
        Checks.due("3 flows may be six", 6, () -> Checks.load(x, "router 1 1;flow a 1 1 1 1;flow b 1 1 1 1;flow c 1 1 1 1;"
            + "flow d 1 1 1 1;flow e 1 1 1 1;flow f 1 1 1 1"));
        Checks.due("3 blanks round it", 0, () -> Checks.load(x, "\n router\n40 9 \n"));
        Checks.due("3 default settings", "40 9 5 15 6554 4 0 0 0 0 -1 0 0 0 0 ", () -> Checks.sizes(x));
        drawsBySeed("router 9 1;limits 0 1;flow a 1 1 1 1", 33676);
        drawsBySeed("router 9 1;limits 0 1;seed 1;flow a 1 1 1 1", 33676);
        drawsBySeed("router 9 1;limits 0 1;seed 0;flow a 1 1 1 1", 0);
        drawsBySeed("router 9 1;limits 0 1;flow a 1 1 1 1;seed 9999", (int) (((9999L * 1103515245L + 12345L) & 0xffffffffL) >> 15) & 65535);
    }

    private static void drawsBySeed(String setup, int draw) {
        EarlyDrops x = Checks.router(setup);
        x.tick(1);
        Checks.due("3 first draw of '" + setup + "'", draw, () -> x.decision(0, 6));
    }

    private static void loadReplaces() {
        EarlyDrops x = Checks.router("router 9 1;limits 0 3;weight 0;gentle 1;flow a 1 1 5 9 marks");
        x.tick(4);
        x.setTop(65536);
        x.save(0);
        x.save(1);
        String before = Checks.sizes(x) + Checks.queueOf(x) + Checks.accounts(x, 0) + Checks.decisionOf(x, 0);
        Checks.due("3 an error", -12, () -> Checks.load(x, "router 8 2;flow bb 1 1 1 1;top 70000"));
        Checks.due("3 an error changes nothing", before,
            () -> Checks.sizes(x) + Checks.queueOf(x) + Checks.accounts(x, 0) + Checks.decisionOf(x, 0));
        Checks.due("3 the name stays", "a".codePointAt(0), () -> x.letter(0, 0));
        Checks.due("3 empty after an error", 1, () -> x.feed(32, 0, 0, 0, 0));
        Checks.due("3 replaced", 1, () -> Checks.load(x, "router 8 2;flow c 1 1 1 1"));
        Checks.due("3 all is new", "8 2 5 15 6554 4 0 0 0 0 -1 1 1 0 0 ", () -> Checks.sizes(x));
        Checks.due("3 accounts", "0 0 0 0 0 0 0 0", () -> Checks.accounts(x, 0));
        Checks.due("3 window", "1 1 1 1 0 1 1 0 0 1 0", () -> Checks.flowOf(x, 0));
        Checks.due("3 no saved state 0", -1, () -> x.restore(0));
        Checks.due("3 no saved state 1", -1, () -> x.restore(1));
        Checks.due("3 nothing to undo", -1, x::undo);
        Checks.due("3 empty buffer", 1, () -> x.feed(32, 0, 0, 0, 0));
        EarlyDrops again = Checks.router("router 9 1;top 5;flow a 1 1 2 2;flow b 1 1 3 3");
        again.tick(2);
        Checks.due("3 the same statements anew", 1, () -> Checks.load(again, "router 9 1;top 5;flow a 1 1 2 2"));
        Checks.due("3 no flow that was told before", 0L, () -> again.account(-1, 0));
        Checks.due("3 nor that is on", 1, () -> again.size(12));
        again.tick(1);
        Checks.due("3 nor that sends", 2L, () -> again.account(-1, 0));
        Checks.runFails("router 9 1;flow a 1 1 2 2", "send b 1;", 4, 5);
        EarlyDrops kept = Checks.router("router 9 1");
        kept.setTop(9);
        kept.save(1);
        kept.setTop(8);
        Checks.load(kept, "router");
        Checks.due("3 undo after an error", 1, kept::undo);
        Checks.due("3 restore after an error", 0, () -> kept.restore(1));
        Checks.due("3 TOP as saved", 9, () -> kept.size(4));
    }

    private static void loadErrors() {
        Checks.loadFails("", 1, 0);
        Checks.loadFails("  \n", 1, 3);
        Checks.loadFails("route 20 1", 1, 0);
        Checks.loadFails("routers 20 1", 1, 0);
        Checks.loadFails(" 20", 1, 1);
        Checks.loadFails("router", 1, 6);
        Checks.loadFails("router ", 1, 7);
        Checks.loadFails("router x", 1, 7);
        Checks.loadFails("router 20;", 1, 9);
        Checks.loadFails("router 20 1;", 1, 12);
        Checks.loadFails("router 20 1; ", 1, 13);
        Checks.loadFails("router 20 1 top 5", 1, 12);
        Checks.loadFails("router 20 1;;top 5", 1, 12);
        Checks.loadFails("router 20 1;tops 5", 1, 12);
        Checks.loadFails("router 20 1;marks", 1, 12);
        Checks.loadFails("router 20 1;5", 1, 12);
        Checks.loadFails("router 20 1;top 5 6", 1, 18);
        Checks.loadFails("router 20 1\t;top 5", 1, 11);
        Checks.loadFails("router 20 1;Top 5", 1, 12);
        Checks.loadFails("router 20 1;top \u00e9", 1, 16);
        Checks.loadFails("router 20 1)", 1, 11);
        Checks.loadFails("router 20 1;flow ninechars 1 1 1 1", 1, 17);
        Checks.loadFails("router 20 1;flow 1 1 1 1 1", 1, 17);
        Checks.loadFails("router 20 1;flow a 1 1 1", 1, 24);
        Checks.loadFails("router 20 1;flow a 1 1 1 marks", 1, 25);
        Checks.loadFails("router 20 1;flow a 1 1 1 1 mark", 1, 27);
        Checks.loadFails("router 20 1;flow a 1 1 1 1 marks marks", 1, 33);
        Checks.loadFails("router 20 1;limits 5", 1, 20);
        Checks.loadFails("router 20 1;flow a 1 1 1 1;flow a 1 1 1 1", 3, 32);
        Checks.loadFails("router 20 1;flow ab 1 1 1 1;flow a 1 1 1 1;flow ab 0 1 1 1", 3, 48);
        Checks.loadFails("router 20 1;limits 1 2;top 5;limits 1 2", 3, 29);
        Checks.loadFails("router 20 1;top 5;top x", 3, 18);
        Checks.loadFails("router 20 1;weight 5;weight 5", 3, 21);
        Checks.loadFails("router 20 1;gentle 0;gentle 0", 3, 21);
        Checks.loadFails("router 20 1;seed 0;seed 0", 3, 19);
        String six = "router 1 1;flow a 1 1 1 1;flow b 1 1 1 1;flow c 1 1 1 1;flow d 1 1 1 1;flow e 1 1 1 1;flow f 1 1 1 1";
        Checks.loadFails(six + ";flow a 0", 5, six.length() + 1);
        Checks.loadFails(six + ";flow", 5, six.length() + 1);
        Checks.loadFails("router 20 1;top 70000;tip", 2, 16);
    }

    private static void loadRanges() {
        range("router ", 1, 40, " 1");
        range("router 1 ", 1, 9, "");
        range("router 1 1;limits ", 0, 39, " 40");
        range("router 1 1;limits 7 ", 8, 40, "");
        range("router 1 1;limits 0 ", 1, 40, "");
        range("router 1 1;top ", 0, 65536, "");
        range("router 1 1;weight ", 0, 10, "");
        range("router 1 1;gentle ", 0, 1, "");
        range("router 1 1;seed ", 0, 9999, "");
        range("router 1 1;flow a ", 1, 99, " 1 1 1");
        range("router 1 1;flow a 1 ", 1, 50, " 1 1");
        range("router 1 1;flow a 1 1 ", 1, 9, " 9");
        range("router 1 1;flow a 1 1 4 ", 4, 9, "");
        Checks.due("3 six digits", 0, () -> Checks.load(new EarlyDrops(), "router 000040 000009"));
        Checks.loadFails("router 0000040 1", 2, 7);
        Checks.loadFails("router 1 1;seed 0000000", 2, 16);
        Checks.loadFails("router 99999999999999999999 1", 2, 7);
        Checks.loadFails("router 4294967297 1", 2, 7);
        Checks.loadFails("router 1 1;limits 40 41", 2, 18);
    }

    private static void range(String ahead, int from, int to, String behind) {
        Checks.due(ahead + from, true, () -> Checks.load(new EarlyDrops(), ahead + from + behind) >= 0);
        Checks.due(ahead + to, true, () -> Checks.load(new EarlyDrops(), ahead + to + behind) >= 0);
        if (from > 0) {
            Checks.loadFails(ahead + (from - 1) + behind, 2, ahead.length());
        }
        Checks.loadFails(ahead + (to + 1) + behind, 2, ahead.length());
    }

    private static void runDoes() {
        EarlyDrops x = Checks.router(TWO);
        Checks.due("4 an empty script", 0, x::run);
        Checks.due("4 is a change", 1, () -> x.size(14));
        Checks.due("4 each order", 8, () -> Checks.run(x,
            "send b 3;limits 7 8;top 9;weight 10;gentle 1;stop a;tick 2;start a;"));
        Checks.due("4 as the calls", "9 1 7 8 9 10 1 2 1 188 -1 2 2 3 2 ", () -> Checks.sizes(x));
        Checks.due("4 of flow b", "1@0", () -> Checks.queueOf(x));
        Checks.due("4 undone as a whole", 1, x::undo);
        Checks.due("4 undone", "9 1 5 15 6554 4 0 0 0 0 -1 2 2 0 1 ", () -> Checks.sizes(x));
        Checks.due("4 again", 6, () -> Checks.run(x, "again 2(again 3(tick 1;););"));
        Checks.due("4 six ticks", 6, () -> x.size(7));
        Checks.due("4 again nothing", 1, () -> Checks.run(x, "again 0(tick 1;);again 20();again 3(again 0(tick 1;););tick 1;"));
        Checks.due("4 one tick", 7, () -> x.size(7));
        Checks.due("4 behind the bracket", 5, () -> Checks.run(x, "again 2(tick 1;again 1(top 5;););weight 1;"));
        Checks.due("4 two ticks", 9, () -> x.size(7));
        Checks.due("4 its answer counts no drops", 1, () -> Checks.run(x, "send a 40;"));
        Checks.due("4 empty buffer", 1, () -> x.feed(32, 0, 0, 0, 0));
        EarlyDrops y = Checks.router(TWO);
        Checks.due("4 the lowest numbers", 6, () -> Checks.run(y, "tick 1;send a 1;limits 0 1;top 0;weight 0;gentle 0;"));
        Checks.due("4 as told", "9 1 0 1 0 0 0 1 1 0 -1 2 2 1 1 ", () -> Checks.sizes(y));
        Checks.due("4 the highest numbers", 6, () ->
            Checks.run(y, "tick 50;send b 40;limits 39 40;top 65536;weight 10;gentle 1;"));
        Checks.due("4 as told", "9 1 39 40 65536 10 1 51", () -> Checks.sizes(y).replaceFirst("(( ?\\d+){8}).*", "$1"));
        EarlyDrops z = Checks.router(TWO);
        Checks.due("4 an error within brackets", -12, () -> Checks.run(z, "again 2(again 2(tick 0;););"));
        Checks.due("4 and the next script", 1, () -> Checks.run(z, "again 1(again 1(tick 1;););"));
        Checks.due("4 30 brackets", 0, () -> Checks.run(z, "again 2();".repeat(30)));
        Checks.due("4 29 brackets and an order", 1, () -> Checks.run(z, "again 2();".repeat(29) + "tick 1;"));
        Checks.due("4 15 brackets with an order each", 30, () -> Checks.run(z, "again 2(tick 1;);".repeat(15)));
        Checks.due("4 time 32", 32, () -> z.size(7));
    }

    private static void runEnds() {
        EarlyDrops x = Checks.router(TWO);
        Checks.due("4 40 orders", 40, () -> Checks.run(x, "again 20(tick 1;tick 1;);"));
        Checks.due("4 time 40", 40, () -> x.size(7));
        Checks.due("4 40 orders at most", 40, () -> Checks.run(x, "top 7;again 20(tick 1;top 3;tick 1;);top 9;"));
        Checks.due("4 it ends as a whole", 3, () -> x.size(4));
        Checks.due("4 1 + 13 * 3 orders: 26 ticks", 66, () -> x.size(7));
        Checks.due("4 stop twice", 2, () -> Checks.run(x, "top 1;stop a;stop a;top 2;"));
        Checks.due("4 what was done stays", 1, () -> x.size(4));
        Checks.due("4 a is off", 0, () -> x.flow(0, 5));
        Checks.due("4 start b", 0, () -> Checks.run(x, "start b;top 4;"));
        Checks.due("4 none was done", 1, () -> x.size(4));
        Checks.due("4 it is recorded all the same", 4, () -> x.size(14));
        Checks.due("4 ends within brackets", 1, () -> Checks.run(x, "again 2(again 2(start a;););top 5;"));
        Checks.due("4 the whole ends", 1, () -> x.size(4));
        Checks.due("4 up to the last times", 40, () -> Checks.run(x, "again 20(again 20(tick 50;););"));
        Checks.due("4 time 2066", 2066, () -> x.size(7));
        for (int i = 0; i < 3; i++) {
            Checks.run(x, "again 20(again 20(tick 50;););");
        }
        Checks.due("4 time 8066", 8066, () -> x.size(7));
        Checks.due("4 up to 9999", 38, () -> Checks.run(x, "again 20(again 20(tick 50;););"));
        Checks.due("4 time 9966", 9966, () -> x.size(7));
        Checks.due("4 as a whole", 2, () -> Checks.run(x, "tick 30;tick 3;tick 1;top 77;"));
        Checks.due("4 time 9999", 9999, () -> x.size(7));
        Checks.due("4 not beyond", 1, () -> x.size(4));
    }

    private static void runErrors() {
        Checks.runFails(TWO, "tick", 1, 4);
        Checks.runFails(TWO, "tick 5", 1, 6);
        Checks.runFails(TWO, "tick 5 ", 1, 7);
        Checks.runFails(TWO, "tick;", 1, 4);
        Checks.runFails(TWO, "tick 5;)", 1, 7);
        Checks.runFails(TWO, ";", 1, 0);
        Checks.runFails(TWO, "tick 1;;", 1, 7);
        Checks.runFails(TWO, "7", 1, 0);
        Checks.runFails(TWO, "seed 7;", 1, 0);
        Checks.runFails(TWO, "Tick 7;", 1, 0);
        Checks.runFails(TWO, "send 7 7;", 1, 5);
        Checks.runFails(TWO, "send ninechars 7;", 1, 5);
        Checks.runFails(TWO, "send a;", 1, 6);
        Checks.runFails(TWO, "again 2 tick 1;", 1, 8);
        Checks.runFails(TWO, "again 2 (tick 1;)", 1, 17);
        Checks.runFails(TWO, "again 2 (tick 1);", 1, 15);
        Checks.runFails(TWO, "again 2 (tick 1;;", 1, 16);
        Checks.runFails(TWO, "again 2 (tick 1;", 1, 16);
        Checks.runFails(TWO, "again 2 (again 2 ();", 1, 20);
        Checks.runFails(TWO, "again (tick 1;);", 1, 6);
        Checks.runFails(TWO, "tick 0;", 2, 5);
        Checks.runFails(TWO, "tick 51;", 2, 5);
        Checks.runFails(TWO, "tick 0000001;", 2, 5);
        Checks.runFails(TWO, "send a 0;", 2, 7);
        Checks.runFails(TWO, "send a 41;", 2, 7);
        Checks.runFails(TWO, "limits 40 41;", 2, 7);
        Checks.runFails(TWO, "limits 7 7;", 2, 9);
        Checks.runFails(TWO, "limits 7 41;", 2, 9);
        Checks.runFails(TWO, "top 65537;", 2, 4);
        Checks.runFails(TWO, "weight 11;", 2, 7);
        Checks.runFails(TWO, "gentle 2;", 2, 7);
        Checks.runFails(TWO, "again 21();", 2, 6);
        Checks.runFails(TWO, "send c 41;", 4, 5);
        Checks.runFails(TWO, "tick 1;stop aa;", 4, 12);
        Checks.runFails(TWO, "start c;", 4, 6);
        Checks.runFails("router 1 1", "stop a;", 4, 5);
        String thirty = "tick 1;again 0(again 0(" + "top 1;".repeat(25) + "););weight 1;gentle 1;";
        EarlyDrops x = Checks.router(TWO);
        Checks.due("4 30 orders", 3, () -> Checks.run(x, thirty));
        Checks.runFails(TWO, thirty + "top;", 5, thirty.length());
        Checks.runFails(TWO, thirty + "again 0 ();", 5, thirty.length());
        Checks.runFails(TWO, thirty + "tip 1;", 1, thirty.length());
        Checks.runFails(TWO, thirty + ")", 1, thirty.length());
        Checks.runFails(TWO, "again 1(again 1(again 1(tick 1;););)", 5, 23);
        Checks.runFails(TWO, "again 1(again 1(again 21(", 2, 22);
        Checks.due("4 brackets one behind the other", 4, () ->
            Checks.run(x, "again 1(again 1(top 1;);again 1(top 1;););again 1(again 1(top 1;););again 1(top 1;);"));
    }

    private static void errorPosition() {
        EarlyDrops x = new EarlyDrops();
        Checks.load(x, "router 20 1;tip");
        Checks.due("5 of load", 12, x::errorPosition);
        x.tick(1);
        x.undo();
        Checks.due("5 stays", 12, x::errorPosition);
        Checks.run(x, "top 5;top ;");
        Checks.due("5 of run", 10, x::errorPosition);
        x.run();
        Checks.due("5 none of run", -1, x::errorPosition);
        Checks.run(x, "tip");
        Checks.due("5 at the first byte", 0, x::errorPosition);
        Checks.load(x, "router 20 1;flow a 1 1 1 1");
        Checks.due("5 none of load", -1, x::errorPosition);
        Checks.run(x, "tip");
        Checks.run(x, "start a;");
        Checks.due("5 a script that ends early has none", -1, x::errorPosition);
    }
}
