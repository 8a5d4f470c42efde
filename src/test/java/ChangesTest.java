/** Promises 32 to 43: changes, reports, undo, saved states. */
public final class ChangesTest {
    private static final String TWO = "router 9 1;limits 0 3;weight 0;top 65536;flow ab 1 2 3 9 marks;flow c 2 3 2 9";

    public static void main(String[] args) {
        tick();
        tickOrder();
        send();
        settings();
        setOn();
        report();
        undo();
        undoRestoresAll();
        saveAndRestore();
        Checks.end();
    }

    private static void tick() {
        EarlyDrops x = new EarlyDrops();
        Checks.due("32 one", 1, () -> x.tick(1));
        Checks.due("32 fifty", 51, () -> x.tick(50));
        Checks.argument("32 0", () -> x.tick(0));
        Checks.argument("32 51", () -> x.tick(51));
        Checks.argument("32 far", () -> x.tick(Integer.MAX_VALUE));
        Checks.due("32 recorded twice", 2, () -> x.size(14));
        for (int i = 0; i < 198; i++) {
            x.tick(50);
        }
        Checks.due("32 9951", 9951, () -> x.size(7));
        Checks.due("32 beyond 9999", -2, () -> x.tick(49));
        Checks.due("32 nothing changes", 9951, () -> x.size(7));
        Checks.argument("32 parameters first", () -> x.tick(51));
        x.load();
        EarlyDrops y = new EarlyDrops();
        for (int i = 0; i < 5; i++) {
            Checks.run(y, "again 20(tick 50;tick 50;);");
        }
        Checks.run(y, "tick 1;");
        Checks.due("32 6 changes", 6, () -> y.size(14));
        Checks.due("32 error code", -2, () -> y.tick(50));
        Checks.due("32 is not recorded", 6, () -> y.size(14));
        Checks.due("32 up to 9999", 9999, () -> y.tick(48));
        Checks.due("32 not one more", -2, () -> y.tick(1));
        Checks.due("32 still", 9999, () -> y.size(7));
    }

    private static void tickOrder() {
        // sent at 1, with the time 1, ahead of the leaving; RATE 2 of them leave
        EarlyDrops x = Checks.router("router 9 2;flow a 1 9 3 9;flow b 2 9 1 9");
        x.tick(1);
        Checks.due("32 sends, then leaves", "0@1", () -> Checks.queueOf(x));
        Checks.due("32 left at once", "3 0 0 0 0 2 0 0", () -> Checks.accounts(x, 0));
        x.tick(1);
        Checks.due("32 all leave if there are fewer", "", () -> Checks.queueOf(x));
        Checks.due("32 waits", "3 0 0 0 0 3 0 1", () -> Checks.accounts(x, 0));
        // AVERAGE falls in a tick that ends with an empty queue alone
        EarlyDrops y = Checks.router("router 9 1;weight 1;flow a 9 9 1 1");
        y.send(0, 3);
        int[] averages = {1280, 1280, 640, 320};
        for (int average : averages) {
            y.tick(1);
            Checks.due("32 AVERAGE", average, () -> y.size(9));
        }
        EarlyDrops z = Checks.router("router 9 1;weight 1;flow a 9 9 1 1");
        z.send(0, 3);
        z.tick(4);
        Checks.due("32 four at once", 320, () -> z.size(9));
    }

    private static void send() {
        EarlyDrops x = Checks.router("router 5 1;limits 20 30;flow a 9 9 2 9;flow b 9 9 1 1");
        Checks.due("33 three", 3, () -> x.send(1, 3));
        Checks.due("33 two of forty", 2, () -> x.send(0, 40));
        Checks.due("33 none", 0, () -> x.send(0, 1));
        Checks.due("33 recorded all the same", 3, () -> x.size(14));
        Checks.due("33 their queue", "1@0 1@0 1@0 0@0 0@0", () -> Checks.queueOf(x));
        Checks.due("33 no sending, but told", "9 9 2 9 0 1 2 1 2 9 0", () -> Checks.flowOf(x, 0));
        x.tick(2);
        x.setOn(1, false);
        Checks.due("33 when off", 2, () -> x.send(1, 2));
        Checks.due("33 now", "1@0 0@0 0@0 1@2 1@2", () -> Checks.queueOf(x));
        EarlyDrops marked = Checks.router("router 9 1;limits 0 9;weight 0;top 65536;flow a 9 9 1 1 marks");
        Checks.due("33 with those that are marked", 9, () -> marked.send(0, 12));
        Checks.due("33 some are", true, () -> marked.account(0, 1) > 0);
        Checks.index("33 no flow 2", () -> x.send(2, 1));
        Checks.index("33 NONE is no flow here", () -> x.send(-1, 1));
        Checks.index("33 index first", () -> x.send(2, 0));
        Checks.argument("33 0", () -> x.send(0, 0));
        Checks.argument("33 41", () -> x.send(0, 41));
        Checks.due("33 nothing recorded", 6, () -> x.size(14));
    }

    private static void settings() {
        EarlyDrops x = new EarlyDrops();
        Checks.due("34 before 5 and 15", 515, () -> x.setLimits(39, 40));
        Checks.due("34 before 39 and 40", 3940, () -> x.setLimits(0, 1));
        Checks.due("34 before 0 and 1", 1, () -> x.setLimits(7, 9));
        Checks.due("34 set", "7 9", () -> x.size(2) + " " + x.size(3));
        Checks.argument("34 min -1", () -> x.setLimits(-1, 5));
        Checks.argument("34 min 40", () -> x.setLimits(40, 41));
        Checks.argument("34 max min", () -> x.setLimits(7, 7));
        Checks.argument("34 max 41", () -> x.setLimits(7, 41));
        Checks.argument("34 far", () -> x.setLimits(Integer.MAX_VALUE, Integer.MIN_VALUE));
        Checks.due("35 before 6554", 6554, () -> x.setTop(65536));
        Checks.due("35 before 65536", 65536, () -> x.setTop(0));
        Checks.argument("35 -1", () -> x.setTop(-1));
        Checks.argument("35 65537", () -> x.setTop(65537));
        Checks.due("35 set", 0, () -> x.size(4));
        Checks.due("36 before 4", 4, () -> x.setWeight(10));
        Checks.due("36 before 10", 10, () -> x.setWeight(0));
        Checks.argument("36 -1", () -> x.setWeight(-1));
        Checks.argument("36 11", () -> x.setWeight(11));
        Checks.due("36 set", 0, () -> x.size(5));
        EarlyDrops y = new EarlyDrops();
        Checks.due("37 before 0", 0, () -> y.setGentle(1));
        Checks.due("37 before 1", 1, () -> y.setGentle(1));
        Checks.due("37 set", 1, () -> y.size(6));
        Checks.due("37 before 1 still", 1, () -> y.setGentle(0));
        Checks.argument("37 -1", () -> y.setGentle(-1));
        Checks.argument("37 2", () -> y.setGentle(2));
        Checks.due("37 each is recorded, the same value too", 3, () -> y.size(14));
        y.undo();
        Checks.due("37 undone", 1, () -> y.size(6));
        y.setLimits(1, 2);
        y.setTop(3);
        y.setWeight(4);
        Checks.due("34 to 36 are recorded", 5, () -> y.size(14));
    }

    private static void setOn() {
        EarlyDrops x = Checks.router(TWO);
        x.tick(2);
        String before = Checks.flowOf(x, 0);
        Checks.due("38 one is on", 1, () -> x.setOn(0, false));
        Checks.due("38 all else stays", before.replaceFirst("1 2 3 9 1 1", "1 2 3 9 1 0"), () -> Checks.flowOf(x, 0));
        Checks.due("38 so already", -3, () -> x.setOn(0, false));
        Checks.due("38 not recorded", 2, () -> x.size(14));
        Checks.due("38 none is on", 0, () -> x.setOn(1, false));
        Checks.due("38 one again", 1, () -> x.setOn(0, true));
        Checks.due("38 so already too", -3, () -> x.setOn(0, true));
        Checks.due("38 both", 2, () -> x.setOn(1, true));
        Checks.index("38 no flow 2", () -> x.setOn(2, true));
        Checks.index("38 no flow -1", () -> x.setOn(-1, true));
        EarlyDrops y = Checks.router("router 9 1;flow a 1 1 2 9");
        y.setOn(0, false);
        y.tick(2);
        y.setOn(0, true);
        y.tick(1);
        Checks.due("38 its first sending", "1 1 2 9 0 1 2 0 1 1 1", () -> Checks.flowOf(y, 0));
    }

    private static void report() {
        EarlyDrops x = new EarlyDrops();
        Checks.due("40 none yet", -1, () -> x.reportByte(0));
        Checks.due("39 no flows", "|", () -> Checks.reported(x));
        EarlyDrops y = Checks.router("router 4 1;limits 1 3;weight 0;top 32768;flow a 9 9 1 9;flow bcd 9 9 1 9 marks");
        Checks.due("39 nothing yet", "a:0/0 bcd:0/0 |", () -> Checks.reported(y));
        y.send(1, 3);
        Checks.due("39 a mark", "a:0/0 bcd:3/0! |111*", () -> Checks.reported(y));
        y.send(0, 12);
        Checks.due("39 drops", "a:12/0! bcd:3/0! |111*", () -> Checks.reported(y));
        Checks.due("39 its bytes", 22, y::report);
        Checks.due("40 first", 97, () -> y.reportByte(0));
        Checks.due("40 last", 42, () -> y.reportByte(21));
        Checks.due("40 behind", -1, () -> y.reportByte(22));
        Checks.due("40 ahead", -1, () -> y.reportByte(-1));
        y.tick(3);
        Checks.due("40 the latest report", 42, () -> y.reportByte(21));
        y.undo();
        Checks.due("40 undo leaves it", 42, () -> y.reportByte(21));
        y.tick(3);
        Checks.due("39 in place of it", "a:12/0! bcd:3/3! |", () -> Checks.reported(y));
        Checks.due("40 shorter", -1, () -> y.reportByte(18));
        y.save(0);
        y.restore(0);
        Checks.due("40 restore leaves it", 124, () -> y.reportByte(17));
        Checks.load(y, "router 1 1;flow z 1 1 1 1;top");
        Checks.due("40 an error leaves it", 124, () -> y.reportByte(17));
        EarlyDrops z = Checks.router("router 9 1;flow a 9 9 1 1");
        z.send(0, 4);
        z.tick(2);
        Checks.due("39 none told", "a:4/2 |00", () -> Checks.reported(z));
        Checks.due("39 is no change", 2, () -> z.size(14));
    }

    private static void undo() {
        EarlyDrops x = new EarlyDrops();
        Checks.due("41 nothing", -1, x::undo);
        for (int top = 1; top <= 10; top++) {
            x.setTop(top);
            int kept = Math.min(top, 8);
            Checks.due("41 kept", kept, () -> x.size(14));
        }
        for (int left = 7; left >= 0; left--) {
            int still = left;
            Checks.due("41 still", still, x::undo);
            Checks.due("41 the most recent first", still + 2, () -> x.size(4));
        }
        Checks.due("41 only eight", -1, x::undo);
        Checks.due("41 TOP 2", 2, () -> x.size(4));
        x.setTop(5);
        x.setTop(6);
        x.undo();
        x.setTop(7);
        Checks.due("41 of two", 1, x::undo);
        Checks.due("41 back to 5", 5, () -> x.size(4));
        Checks.due("41 of one", 0, x::undo);
        Checks.due("41 back to 2", 2, () -> x.size(4));
        Checks.feed(x, "tip;");
        x.setTop(9);
        x.undo();
        Checks.due("41 the buffer stays", 5, () -> x.feed(32, 0, 0, 0, 0));
        Checks.run(x, "");
        Checks.due("41 the error position", 0, x::errorPosition);
        x.setTop(9);
        x.save(1);
        x.undo();
        Checks.due("41 the error position stays", 0, x::errorPosition);
        Checks.due("41 what is saved stays", 0, () -> x.restore(1));
        Checks.due("41 as saved", 9, () -> x.size(4));
    }

    private static void undoRestoresAll() {
        for (int changes = 0; changes <= 7; changes++) {
            EarlyDrops x = changed(7);
            for (int back = 7; back > changes; back--) {
                x.undo();
            }
            Checks.same("41 all is as before change " + changes, changed(changes), x);
        }
    }

    /** A router to which the first ones of these changes have come. */
    private static EarlyDrops changed(int changes) {
        EarlyDrops x = Checks.router(TWO);
        x.tick(5);
        if (changes > 0) x.tick(3);
        if (changes > 1) x.send(0, 4);
        if (changes > 2) x.setOn(1, false);
        if (changes > 3) Checks.run(x, "again 3(send c 2;tick 2;top 6;gentle 1;limits 1 2;weight 3;);start c;");
        if (changes > 4) x.setLimits(3, 4);
        if (changes > 5) x.setGentle(0);
        if (changes > 6) x.tick(50);
        return x;
    }

    private static void saveAndRestore() {
        EarlyDrops x = at7();
        Checks.due("42 save is no change", 4, () -> x.size(14));
        Checks.due("43 restore", 4, () -> x.restore(0));
        Checks.due("43 nothing can be undone", -1, x::undo);
        Checks.same("43 all of it", restored(0), x);
        EarlyDrops y = at7();
        y.restore(0);
        y.tick(9);
        Checks.due("43 it stays", 4, () -> y.restore(0));
        Checks.same("43 all of it again", restored(0), y);
        EarlyDrops z = at7();
        z.restore(0);
        Checks.due("43 the other", 7, () -> z.restore(1));
        Checks.same("43 all of the other", restored(1), z);
        EarlyDrops w = at7();
        w.tick(5);
        Checks.due("42 in place", 12, () -> w.save(0));
        w.tick(1);
        Checks.due("43 in place", 12, () -> w.restore(0));
        w.setTop(1);
        Checks.due("43 changes after it can be undone", 0, w::undo);
        EarlyDrops v = Checks.router(TWO);
        Checks.due("43 nothing there", -1, () -> v.restore(0));
        v.save(1);
        Checks.due("43 nothing in the other one", -1, () -> v.restore(0));
        Checks.argument("42 -1", () -> v.save(-1));
        Checks.argument("42 2", () -> v.save(2));
        Checks.argument("43 -1", () -> v.restore(-1));
        Checks.argument("43 2", () -> v.restore(2));
    }

    /** A router at the time 7, its state at 4 in slot 0 and the one that it is in in slot 1. */
    private static EarlyDrops at7() {
        EarlyDrops x = Checks.router(TWO);
        x.tick(4);
        Checks.due("42 save", 4, () -> x.save(0));
        x.tick(3);
        x.send(1, 3);
        x.setOn(0, false);
        Checks.due("42 save 1", 7, () -> x.save(1));
        return x;
    }

    /** A router that came by changes to what at7() has in a slot, and that has nothing to undo. */
    private static EarlyDrops restored(int slot) {
        EarlyDrops x = Checks.router(TWO);
        x.tick(4);
        if (slot == 1) {
            x.tick(3);
            x.send(1, 3);
            x.setOn(0, false);
        }
        x.save(0);
        x.restore(0);
        return x;
    }
}
