/** What the tests of the promises share: texts into the buffer, answers against those that are due. */
final class Checks {
    interface Call {
        Object answer();
    }

    private static int asked;
    private static int wrong;

    private Checks() {
    }

    static void due(String what, Object want, Call call) {
        asked++;
        Object got;
        try {
            got = call.answer();
        } catch (RuntimeException e) {
            got = e.getClass().getSimpleName();
        }
        if (!got.equals(want)) {
            wrong++;
            System.out.println(what + " answered " + got + ", due is " + want);
        }
    }

    static void index(String what, Call call) {
        due(what, "IndexOutOfBoundsException", call);
    }

    static void argument(String what, Call call) {
        due(what, "IllegalArgumentException", call);
    }

    static int feed(EarlyDrops x, String text) {
        int answer = 0;
        for (int at = 0; at < text.length(); at += 20) {
            answer = x.feed(four(text, at), four(text, at + 4), four(text, at + 8), four(text, at + 12), four(text, at + 16));
        }
        return answer;
    }

    private static int four(String text, int at) {
        int packed = 0;
        for (int i = at; i < at + 4; i++) {
            packed = packed << 8 | (i < text.length() ? text.charAt(i) & 255 : 0);
        }
        return packed;
    }

    static int load(EarlyDrops x, String text) {
        feed(x, text);
        return x.load();
    }

    static int run(EarlyDrops x, String text) {
        feed(x, text);
        return x.run();
    }

    /** A new object with this setup, which must be right. */
    static EarlyDrops router(String setup) {
        EarlyDrops x = new EarlyDrops();
        int flows = load(x, setup);
        if (flows < 0) {
            wrong++;
            System.out.println("load of '" + setup + "' answered " + flows + " at " + x.errorPosition());
        }
        return x;
    }

    /** A router with a past: queue, decisions, accounts, two changes, one of them behind what is saved in slot 0. */
    static EarlyDrops lived() {
        EarlyDrops x = router("router 9 1;limits 0 3;weight 0;top 65536;gentle 1;flow a 1 2 3 9;flow m 2 3 2 9 marks");
        x.tick(5);
        x.save(0);
        x.send(1, 4);
        return x;
    }

    static void loadFails(String text, int code, int at) {
        EarlyDrops x = new EarlyDrops();
        due("load of '" + text + "'", -10 - code, () -> load(x, text));
        due("errorPosition of '" + text + "'", at, x::errorPosition);
    }

    static void runFails(String setup, String text, int code, int at) {
        EarlyDrops x = router(setup);
        due("run of '" + text + "'", -10 - code, () -> run(x, text));
        due("errorPosition of '" + text + "'", at, x::errorPosition);
        due("changes after '" + text + "'", 0, () -> x.size(14));
    }

    /** All of size(), so that "changes nothing" can be asked. */
    static String sizes(EarlyDrops x) {
        StringBuilder all = new StringBuilder();
        for (int what = 0; what <= 14; what++) {
            all.append(x.size(what)).append(' ');
        }
        return all.toString();
    }

    static String decisionOf(EarlyDrops x, int k) {
        StringBuilder all = new StringBuilder();
        for (int what = 0; what <= 7; what++) {
            all.append(what == 0 ? "" : " ").append(x.decision(k, what));
        }
        return all.toString();
    }

    static String decisionsOf(EarlyDrops x) {
        StringBuilder all = new StringBuilder();
        for (int k = 0; k < x.size(13); k++) {
            all.append(decisionOf(x, k)).append(' ');
        }
        return all.toString();
    }

    static String accounts(EarlyDrops x, int flow) {
        StringBuilder all = new StringBuilder();
        for (int what = 0; what <= 7; what++) {
            all.append(what == 0 ? "" : " ").append(x.account(flow, what));
        }
        return all.toString();
    }

    static String flowOf(EarlyDrops x, int flow) {
        StringBuilder all = new StringBuilder();
        for (int what = 0; what <= 10; what++) {
            all.append(what == 0 ? "" : " ").append(x.flow(flow, what));
        }
        return all.toString();
    }

    static String queueOf(EarlyDrops x) {
        StringBuilder all = new StringBuilder();
        for (int k = 0; k < x.size(8); k++) {
            all.append(k == 0 ? "" : " ").append(x.packet(k, 0)).append('@').append(x.packet(k, 1));
            all.append(x.packet(k, 2) == 1 ? "*" : "");
        }
        return all.toString();
    }

    /** All that undoing restores, the draws too: some 300 calls, of the 512 for which an object is used. */
    static String whole(EarlyDrops x) {
        StringBuilder all = new StringBuilder(sizes(x));
        for (int flow = 0; flow < x.size(11); flow++) {
            all.append("flow ").append((char) x.letter(flow, 0)).append(' ').append(flowOf(x, flow));
            all.append(" accounts ").append(accounts(x, flow)).append(' ');
        }
        all.append("queue ").append(queueOf(x)).append(" decisions ").append(decisionsOf(x));
        for (int what = 1; what <= 4; what++) {
            all.append("to come ").append(x.accountIn(-1, what, 40)).append(' ');
        }
        return all.toString();
    }

    /** That two objects are in the same state: one that was used plainly, and one with calls that should make no difference. */
    static void same(String what, EarlyDrops plain, EarlyDrops other) {
        due(what, whole(plain), () -> whole(other));
    }

    static String reported(EarlyDrops x) {
        StringBuilder all = new StringBuilder();
        int bytes = x.report();
        for (int i = 0; i < bytes; i++) {
            all.append((char) x.reportByte(i));
        }
        return all.toString();
    }

    static void end() {
        System.out.println(wrong == 0 ? asked + " answers as due" : wrong + " of " + asked + " answers are not as due");
        if (wrong != 0) {
            System.exit(1);
        }
    }
}
