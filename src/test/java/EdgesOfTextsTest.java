/**
 * The edges that the document names of texts (Texts, and promises 2 to 5): ahead of each test the sentence that it asks.
 */
public final class EdgesOfTextsTest {
    private static final String FLOW = "router 20 1;flow a 9 9 1 9";
    private static final String SIX = "router 40 1;flow a 1 1 1 1;flow b 1 1 1 1;flow c 1 1 1 1;flow d 1 1 1 1;"
        + "flow e 1 1 1 1;flow f 1 1 1 1";

    public static void main(String[] args) {
        buffer();
        tokens();
        setups();
        scripts();
        whatRunsDo();
        Checks.end();
    }

    private static void buffer() {
        zerosLeftOut();
        fiveHundred();
        nothingAppended();
        zerosDoNotCount();
        emptyAfterwards();
    }

    // "Appends the four bytes of each parameter, the most significant byte first .. bytes that are 0 are left out"
    private static void zerosLeftOut() {
        EarlyDrops x = new EarlyDrops();
        Checks.due("nothing but zeros", 0, () -> x.feed(0, 0, 0, 0, 0));
        Checks.due("one byte, the least", 1, () -> x.feed('r', 0, 0, 0, 0));
        Checks.due("one byte, the most", 2, () -> x.feed(0, 'o' << 24, 0, 0, 0));
        Checks.due("zeros amid them", 6, () -> x.feed(0, 0, 0x75007400, 0x00650072, 0));
        Checks.due("of all five", 11, () -> x.feed(0x20000000, 0x34000000, 0x00200000, 0x3900, 10));
        Checks.due("in their order", "0 4 9", () -> x.load() + " " + x.size(0) + " " + x.size(1));
        EarlyDrops y = new EarlyDrops();
        Checks.due("bytes above 127 are bytes", 20, () -> y.feed(-1, Integer.MIN_VALUE | 0x010101, -1, -1, -1));
        Checks.due("a negative number may have one byte", 21, () -> y.feed(Integer.MIN_VALUE, 0, 0, 0, 0));
    }

    /** A text with blanks up to a length behind it. */
    private static EarlyDrops filled(String text, int length) {
        EarlyDrops x = new EarlyDrops();
        Checks.feed(x, text + " ".repeat(length - text.length()));
        return x;
    }

    // "Returns the number of bytes in the buffer; NONE if it would exceed 500"
    private static void fiveHundred() {
        EarlyDrops x = filled("router 20 1", 480);
        Checks.due("500 just fit", 500, () -> x.feed(0x20202020, 0x20202020, 0x20202020, 0x20202020, 0x20202020));
        Checks.due("no 501st", -1, () -> x.feed(0, 0, 0, 0, 32));
        Checks.due("500 bytes are read", 0, x::load);
        EarlyDrops y = filled("router 20 1", 481);
        Checks.due("501 do not fit", -1, () -> y.feed(0x20202020, 0x20202020, 0x20202020, 0x20202020, 0x20202020));
        Checks.due("19 do", 500, () -> y.feed(0x20202020, 0x20202020, 0x20202020, 0x20202020, 0x202020));
        EarlyDrops z = filled("", 499);
        Checks.due("499 and 1", 500, () -> z.feed(0, 0, 59, 0, 0));
        Checks.due("500 blanks and a sign: its place is 499", -11, z::load);
        Checks.due("the last place", 499, z::errorPosition);
    }

    // "and then nothing is appended"
    private static void nothingAppended() {
        EarlyDrops x = filled("router 20 1", 490);
        // ";top 5" and blanks, 11 bytes
        Checks.due("11 to 490", -1, () -> x.feed(0x3b746f70, 0x20352020, 0x20202000, 0, 0));
        Checks.due("490 still", 490, () -> x.feed(0, 0, 0, 0, 0));
        Checks.due("nor a part of them", "0 6554", () -> x.load() + " " + x.size(4));
    }

    // "(without those that are left out)"
    private static void zerosDoNotCount() {
        EarlyDrops x = filled("", 499);
        Checks.due("one of twenty bytes counts", 500, () -> x.feed(0, 0, 0, 0, 0x20000000));
        Checks.due("none of twenty counts", 500, () -> x.feed(0, 0, 0, 0, 0));
        Checks.due("one of twenty is too many", -1, () -> x.feed(0, 0, 0x2000, 0, 0));
    }

    // "The buffer is empty afterwards, also after an error." (load and run)
    private static void emptyAfterwards() {
        EarlyDrops x = new EarlyDrops();
        int[] answers = {0, -11, 0, -11};
        String[] texts = {"router 1 1", "router", "", "tip"};
        for (int i = 0; i < answers.length; i++) {
            int due = answers[i];
            String text = texts[i];
            boolean isSetup = i < 2;
            Checks.due("'" + text + "'", due, () -> isSetup ? Checks.load(x, text) : Checks.run(x, text));
            Checks.due("empty after '" + text + "'", 0, () -> x.feed(0, 0, 0, 0, 0));
        }
        EarlyDrops full = filled("router 1 1", 500);
        full.load();
        Checks.due("500 fit again", 500, () -> Checks.feed(full, " ".repeat(500)));
    }

    private static void tokens() {
        maximalRuns();
        leadingZeros();
        sevenDigits();
        signs();
        everyByte();
        names();
    }

    // "a word is a maximal run of the letters a to z; a number is a maximal run of digits"
    private static void maximalRuns() {
        Checks.due("no blanks are needed between them", 1, () -> Checks.load(new EarlyDrops(), "router20 1;flow abc1 1 1 1marks"));
        Checks.loadFails("routers 20 1", 1, 0);
        Checks.loadFails("route r 20 1", 1, 0);
        Checks.loadFails("router 2 0 1", 2, 9);
        Checks.loadFails("router 20 1;to p 5", 1, 12);
        Checks.due("of a script neither", 3, () -> Checks.run(Checks.router(FLOW), "tick1;again2(tick1;);"));
        Checks.runFails(FLOW, "ticks 1;", 1, 0);
    }

    // "(leading zeros are allowed ..)"
    private static void leadingZeros() {
        EarlyDrops x = Checks.router("router 000040 000009;limits 000000 000001;top 000007;weight 000010;gentle 000001;seed 000000;"
            + "flow a 000099 000050 000009 000009");
        Checks.due("as without them", "40 9 0 1 7 10 1 0 0 0 -1 1 1 0 0 ", () -> Checks.sizes(x));
        Checks.due("of a flow", "99 50 9 9 0 1 9 0 0 99 0", () -> Checks.flowOf(x, 0));
        Checks.due("of a script", 8, () -> Checks.run(x,
            "tick 000001;send a 000001;limits 000000 000001;top 000000;weight 000000;gentle 000000;again 000002(tick 000001;);"));
        Checks.loadFails("router 00 1", 2, 7);
        Checks.runFails(FLOW, "tick 000000;", 2, 5);
    }

    // "a number of more than 6 digits is out of any range"
    private static void sevenDigits() {
        String[] setups = {"router ", " 1", "router 1 ", "", "router 1 1;limits ", " 9", "router 1 1;limits 0 ", "",
            "router 1 1;top ", "", "router 1 1;weight ", "", "router 1 1;gentle ", "", "router 1 1;seed ", "",
            "router 1 1;flow a ", " 1 1 1", "router 1 1;flow a 1 ", " 1 1", "router 1 1;flow a 1 1 ", " 1",
            "router 1 1;flow a 1 1 1 ", ""};
        String[] scripts = {"tick ", ";", "send a ", ";", "limits ", " 9;", "limits 0 ", ";", "top ", ";", "weight ", ";",
            "gentle ", ";", "again ", "();"};
        for (int i = 0; i < setups.length; i += 2) {
            Checks.loadFails(setups[i] + "0000001" + setups[i + 1], 2, setups[i].length());
            Checks.loadFails(setups[i] + "0000000" + setups[i + 1], 2, setups[i].length());
            Checks.loadFails(setups[i] + "9".repeat(400) + setups[i + 1], 2, setups[i].length());
        }
        for (int i = 0; i < scripts.length; i += 2) {
            Checks.runFails(FLOW, scripts[i] + "0000001" + scripts[i + 1], 2, scripts[i].length());
            Checks.runFails(FLOW, scripts[i] + "0000000" + scripts[i + 1], 2, scripts[i].length());
        }
        // 2 to the power of 32 and of 64, and one more
        Checks.loadFails("router 4294967297 1", 2, 7);
        Checks.loadFails("router 18446744073709551617 1", 2, 7);
    }

    // "each of ; ( ) is a token": none of them in place of another
    private static void signs() {
        Checks.loadFails("router 20 1(top 5", 1, 11);
        Checks.loadFails("router 20 1)top 5", 1, 11);
        Checks.runFails(FLOW, "tick 1(", 1, 6);
        Checks.runFails(FLOW, "tick 1)", 1, 6);
        Checks.runFails(FLOW, "again 1;tick 1;);", 1, 7);
        Checks.runFails(FLOW, "again 1)tick 1;);", 1, 7);
        Checks.runFails(FLOW, "again 1(tick 1;(;", 1, 15);
        Checks.runFails(FLOW, "again 1(tick 1;;;", 1, 15);
        Checks.runFails(FLOW, "again 1(tick 1;~;", 1, 15);
        Checks.runFails(FLOW, "again 1(tick 1;)(", 1, 16);
        Checks.runFails(FLOW, "again 1(tick 1;))", 1, 16);
        Checks.runFails(FLOW, "again 1~tick 1;);", 1, 7);
        Checks.runFails(FLOW, "tick 1~", 1, 6);
        Checks.runFails(FLOW, "(tick 1;);", 1, 0);
    }

    // "The bytes 32 and 10 separate tokens and are otherwise ignored. Every other byte is an invalid token."
    private static void everyByte() {
        for (int one = 1; one < 256; one++) {
            char sign = (char) one;
            boolean isDigit = one >= '0' && one <= '9';
            EarlyDrops x = new EarlyDrops();
            EarlyDrops y = Checks.router(FLOW);
            if (one == 32 || one == 10) {
                Checks.due("byte " + one + " is ignored", 0, () -> Checks.load(x, sign + "router" + sign + "20" + sign + sign + "1" + sign));
                Checks.due("byte " + one + " of a script", 1, () -> Checks.run(y, sign + "tick" + sign + sign + "1" + sign + ";" + sign));
                continue;
            }
            Checks.due("byte " + one, isDigit ? -12 : -11, () -> Checks.load(x, "router 20 1" + sign));
            Checks.due("place of byte " + one, isDigit ? 10 : one == ';' ? 12 : 11, x::errorPosition);
            Checks.due("byte " + one + " of a script", -11, () -> Checks.run(y, sign + "(~"));
            Checks.due("place of byte " + one + " of a script", 0, y::errorPosition);
        }
        Checks.runFails(FLOW, "ti ck 1;", 1, 0);
        Checks.runFails(FLOW, "tick 1 1;", 1, 7);
    }

    // "A NAME is a word of 1 to 8 letters."
    private static void names() {
        EarlyDrops x = new EarlyDrops();
        Checks.due("1 and 8 letters", 2, () -> Checks.load(x, "router 9 1;flow z 1 1 1 1;flow abcdefgh 1 1 1 1"));
        Checks.due("of a script", 2, () -> Checks.run(x, "stop z;stop abcdefgh;"));
        Checks.due("letter 7 is its last", "104 -1", () -> x.letter(1, 7) + " " + x.letter(1, 8));
        Checks.loadFails("router 9 1;flow abcdefghi 1 1 1 1", 1, 16);
        Checks.loadFails("router 9 1;flow 7 1 1 1 1", 1, 16);
        Checks.loadFails("router 9 1;flow ;", 1, 16);
        Checks.runFails(FLOW, "send abcdefghi 1;", 1, 5);
        Checks.runFails(FLOW, "stop 1;", 1, 5);
        Checks.runFails(FLOW, "start ;", 1, 6);
    }

    private static void setups() {
        setupEndsEarly();
        setupRanges();
        rangesByOthers();
        toldTwice();
        seventhFlow();
        firstError();
        loadReplaces();
        loadOfAnError();
    }

    // "or the text ends too early (the position is then the length of the text)"
    private static void setupEndsEarly() {
        String[] ends = {"", "router", "router 20", "router 20 1;", "router 20 1;limits", "router 20 1;limits 5", "router 20 1;top",
            "router 20 1;weight", "router 20 1;gentle", "router 20 1;seed", "router 20 1;flow", "router 20 1;flow a",
            "router 20 1;flow a 1", "router 20 1;flow a 1 1", "router 20 1;flow a 1 1 1", "router 20 1;flow a 1 1 1 1 marks;"};
        for (String text : ends) {
            Checks.loadFails(text, 1, text.length());
            Checks.loadFails(text + " \n", 1, text.length() + 2);
        }
        Checks.loadFails(" ".repeat(500), 1, 500);
        Checks.due("none of them is needed", 0, () -> Checks.load(new EarlyDrops(), "router 20 1"));
    }

    // "LIMIT (1 to 40)", "RATE (1 to 9)", "MIN (0 to 39 ..)", "TOP (0 to 65536 ..)", "WEIGHT (0 to 10 ..)", "GENTLE (0 or 1
    // ..)", "SEED (0 to 9999 ..)", "FIRST (1 to 99), PERIOD (1 to 50), START (1 to 9)"; "2 A number that is out of its range."
    private static void setupRanges() {
        range("router ", 1, 40, " 1");
        range("router 1 ", 1, 9, "");
        range("router 1 1;limits ", 0, 39, " 40");
        range("router 1 1;top ", 0, 65536, "");
        range("router 1 1;weight ", 0, 10, "");
        range("router 1 1;gentle ", 0, 1, "");
        range("router 1 1;seed ", 0, 9999, "");
        range("router 1 1;flow a ", 1, 99, " 1 1 1");
        range("router 1 1;flow a 1 ", 1, 50, " 1 1");
        range("router 1 1;flow a 1 1 ", 1, 9, " 9");
    }

    // "MAX (MIN + 1 to 40 ..)", "CAP (START to 9)"
    private static void rangesByOthers() {
        for (int min : new int[] {0, 1, 7, 38, 39}) {
            range("router 1 1;limits " + min + " ", min + 1, 40, "");
        }
        for (int start = 1; start <= 9; start++) {
            range("router 1 1;flow a 1 1 " + start + " ", start, 9, "");
        }
    }

    private static void range(String ahead, int from, int to, String behind) {
        EarlyDrops x = new EarlyDrops();
        Checks.due(ahead + from, true, () -> Checks.load(x, ahead + from + behind) >= 0);
        Checks.due(ahead + to, true, () -> Checks.load(x, ahead + to + behind) >= 0);
        if (from > 0) {
            Checks.loadFails(ahead + (from - 1) + behind, 2, ahead.length());
        }
        Checks.loadFails(ahead + (to + 1) + behind, 2, ahead.length());
        Checks.loadFails(ahead + "999999" + behind, 2, ahead.length());
    }

    // "3 The NAME of a flow that is told already where a new one is told; the word of a second "limits", "top", "weight",
    // "gentle" or "seed" in a setup."
    private static void toldTwice() {
        Checks.loadFails("router 1 1;flow a 1 1 1 1;flow a 1 1 1 1", 3, 31);
        Checks.loadFails(SIX.replace("flow f", "flow a"), 3, SIX.indexOf("flow f") + 5);
        Checks.due("a name that begins so is another", 2, () -> Checks.load(new EarlyDrops(), "router 1 1;flow a 1 1 1 1;flow ab 1 1 1 1"));
        Checks.due("and one that it begins with", 2, () -> Checks.load(new EarlyDrops(), "router 1 1;flow ab 1 1 1 1;flow a 1 1 1 1"));
        String[] words = {"limits 0 1", "top 0", "weight 0", "gentle 0", "seed 0"};
        for (String one : words) {
            String word = one.substring(0, one.indexOf(' '));
            Checks.loadFails("router 1 1;" + one + ";" + one, 3, 12 + one.length());
            Checks.loadFails("router 1 1;" + one + ";flow a 1 1 1 1;" + word, 3, 27 + one.length());
            for (String other : words) {
                boolean isSame = one.equals(other);
                Checks.due(one + " and " + other, isSame ? -13 : 0, () -> Checks.load(new EarlyDrops(), "router 1 1;" + one + ";" + other));
            }
        }
    }

    // "5 The word of a seventh flow"
    private static void seventhFlow() {
        Checks.due("six", 6, () -> Checks.load(new EarlyDrops(), SIX));
        Checks.due("six, and settings behind them", 6, () -> Checks.load(new EarlyDrops(), SIX + ";top 5;seed 5"));
        Checks.loadFails(SIX + ";flow", 5, SIX.length() + 1);
        Checks.loadFails(SIX + ";flow g 1 1 1 1", 5, SIX.length() + 1);
        Checks.loadFails(SIX + ";flow a 0", 5, SIX.length() + 1);
        Checks.loadFails(SIX + ";flows g", 1, SIX.length() + 1);
    }

    // "The first error along the text is reported, at the first byte of its token; if several codes apply to one token, the
    // smallest one."
    private static void firstError() {
        Checks.loadFails("router 41 0;limits 9 9;tip", 2, 7);
        Checks.loadFails("router 1 1;top 9;top 70000;tip", 3, 17);
        Checks.loadFails("router 1 1;top 70000;top 9;tip", 2, 15);
        Checks.loadFails("router 1 1;limits 40 0", 2, 18);
        Checks.loadFails("router 1 1;flow a 1 1 1 1;flow a 0 0 0 0", 3, 31);
        Checks.loadFails("router 1 1 ;\n tip", 1, 14);
        // no number is allowed there: 1 ahead of 2
        Checks.loadFails("router 1 1 1234567", 1, 11);
        Checks.loadFails("router 1 1;1234567", 1, 11);
        // a name that is too long is that of no flow: 1 ahead of 4
        Checks.runFails(FLOW, "send aaaaaaaaa 1;", 1, 5);
        // no order, and the 31st: 1 ahead of 5
        String thirty = "top 1;".repeat(30);
        Checks.runFails(FLOW, thirty + "tip 1;", 1, thirty.length());
        Checks.runFails(FLOW, thirty + ";", 1, thirty.length());
    }

    // "which replaces everything (the time is 0, the queue is empty, no decisions are kept, all accounts are 0); what can be
    // undone and the saved states are discarded"
    private static void loadReplaces() {
        EarlyDrops x = Checks.lived();
        Checks.due("it has a past", true, () -> x.size(7) == 5 && x.size(8) > 0 && x.size(13) > 0 && x.size(14) == 2);
        Checks.load(x, "router 20 1;flow a 1 1 1 1");
        Checks.same("as a new one", Checks.router("router 20 1;flow a 1 1 1 1"), x);
        EarlyDrops drops = Checks.router("router 1 1;flow a 9 9 1 1;flow b 9 9 1 1");
        drops.send(1, 5);
        Checks.load(drops, "router 9 1;flow a 9 9 1 1");
        drops.send(0, 1);
        Checks.due("no drops of a flow that is no more", 0f, drops::lossShare);
        EarlyDrops fewer = Checks.lived();
        Checks.load(fewer, "router 20 1");
        Checks.due("nothing arrived by flows that are no more", 0f, fewer::lossShare);
        Checks.due("accounts of flows that are no more", "0 0 0 0 0 0 0 0", () -> Checks.accounts(fewer, -1));
        fewer.tick(5);
        Checks.due("they send no more", "0 0", () -> fewer.size(8) + " " + fewer.size(13));
        Checks.due("nor will they", -1, fewer::dropIn);
        Checks.due("none is on", 0, () -> fewer.size(12));
        Checks.due("their names are unknown", -14, () -> Checks.run(fewer, "send a 1;"));
        EarlyDrops y = Checks.lived();
        Checks.load(y, "router 20 1");
        Checks.due("nothing to undo", -1, y::undo);
        Checks.due("nothing in slot 0", -1, () -> y.restore(0));
        EarlyDrops z = Checks.lived();
        z.save(1);
        Checks.load(z, "router 20 1");
        Checks.due("nothing in slot 1", -1, () -> z.restore(1));
    }

    // "(then only the buffer and the error position change)" of load
    private static void loadOfAnError() {
        String[] texts = {"", "router", "router 20 1;flow b 1 1 1 1;top 9;top 9", SIX + ";flow g 1 1 1 1", "router 20 1;limits 9 9"};
        int[] codes = {1, 1, 3, 5, 2};
        for (int i = 0; i < texts.length; i++) {
            EarlyDrops x = Checks.lived();
            String text = texts[i];
            Checks.due("load of '" + text + "'", -10 - codes[i], () -> Checks.load(x, text));
            Checks.due("another error position", true, () -> x.errorPosition() >= 0);
            Checks.same("all else is as before '" + text + "'", Checks.lived(), x);
        }
        EarlyDrops y = Checks.lived();
        y.report();
        Checks.load(y, "router");
        Checks.due("the report stays", (int) 'a', () -> y.reportByte(0));
        Checks.due("the changes stay", 1, y::undo);
        Checks.due("slot 0 stays", 5, () -> y.restore(0));
        Checks.due("slot 1 stays empty", -1, () -> y.restore(1));
    }

    private static void scripts() {
        emptyScript();
        scriptEndsEarly();
        scriptRanges();
        noSuchFlow();
        thirtyOrders();
        brackets();
        runOfAnError();
        errorPositions();
    }

    // "script = { order ";" }": none
    private static void emptyScript() {
        for (String text : new String[] {"", " ", "\n", " ".repeat(500)}) {
            EarlyDrops x = Checks.lived();
            Checks.due("an empty script", 0, () -> Checks.run(x, text));
            Checks.due("no error", -1, x::errorPosition);
            Checks.due("recorded all the same", 3, () -> x.size(14));
        }
    }

    // "or the text ends too early (the position is then the length of the text)"
    private static void scriptEndsEarly() {
        String[] ends = {"tick", "tick 1", "send", "send a", "send a 1", "limits", "limits 1", "limits 1 2", "top", "top 1",
            "weight", "weight 1", "gentle", "gentle 1", "stop", "stop a", "start", "start a", "again", "again 1", "again 1(",
            "again 1(tick 1", "again 1(tick 1;", "again 1(tick 1;)", "again 1(again 1(", "again 1(again 1()",
            "again 1(again 1();"};
        for (String text : ends) {
            Checks.runFails(FLOW, text, 1, text.length());
            Checks.runFails(FLOW, text + "\n ", 1, text.length() + 2);
        }
    }

    // "TICKS is 1 to 50, PACKETS 1 to 40, TIMES 0 to 20."
    private static void scriptRanges() {
        order("tick ", 1, 50, ";", 1);
        order("send a ", 1, 40, ";", 1);
        order("limits ", 0, 39, " 40;", 1);
        order("limits 0 ", 1, 40, ";", 1);
        order("limits 38 ", 39, 40, ";", 1);
        order("limits 39 ", 40, 40, ";", 1);
        order("top ", 0, 65536, ";", 1);
        order("weight ", 0, 10, ";", 1);
        order("gentle ", 0, 1, ";", 1);
        order("again ", 0, 20, "();", 0);
        order("again 1(again ", 0, 20, "(););", 0);
    }

    private static void order(String ahead, int from, int to, String behind, int done) {
        EarlyDrops x = Checks.router(FLOW);
        Checks.due(ahead + from, done, () -> Checks.run(x, ahead + from + behind));
        Checks.due(ahead + to, done, () -> Checks.run(x, ahead + to + behind));
        if (from > 0) {
            Checks.runFails(FLOW, ahead + (from - 1) + behind, 2, ahead.length());
        }
        Checks.runFails(FLOW, ahead + (to + 1) + behind, 2, ahead.length());
        Checks.runFails(FLOW, ahead + "999999" + behind, 2, ahead.length());
    }

    // "4 In a script a NAME of no flow."
    private static void noSuchFlow() {
        Checks.runFails(FLOW, "send b 1;", 4, 5);
        Checks.runFails(FLOW, "send aa 1;", 4, 5);
        Checks.runFails("router 9 1;flow ab 1 1 1 1", "send a 1;", 4, 5);
        Checks.runFails(FLOW, "stop abcdefgh;", 4, 5);
        Checks.runFails(FLOW, "start b", 4, 6);
        Checks.runFails(FLOW, "again 0(send b 0;);", 4, 13);
        Checks.runFails("router 9 1", "send a 1;", 4, 5);
        Checks.runFails(FLOW, "send b 99;", 4, 5);
    }

    // "5 .. in a script the first word of a 31st order (those in brackets and "again" count)"
    private static void thirtyOrders() {
        String thirty = "top 1;".repeat(30);
        String inside = "again 0(" + "top 1;".repeat(14) + ");again 0(" + "top 1;".repeat(14) + ");";
        String empty = "again 0();".repeat(30);
        Checks.due("30 orders", 30, () -> Checks.run(Checks.router(FLOW), thirty));
        Checks.due("30 orders, those in brackets too", 0, () -> Checks.run(Checks.router(FLOW), inside));
        Checks.due("30 times again", 0, () -> Checks.run(Checks.router(FLOW), empty));
        for (String text : new String[] {thirty, inside, empty}) {
            Checks.runFails(FLOW, text + "top 1;", 5, text.length());
            Checks.runFails(FLOW, text + "again 0();", 5, text.length());
            Checks.runFails(FLOW, text + "tick", 5, text.length());
        }
        String within = "again 0(" + "top 1;".repeat(29);
        Checks.due("the 30th within a bracket", 0, () -> Checks.run(Checks.router(FLOW), within + ");"));
        Checks.runFails(FLOW, within + "stop b;);", 5, within.length());
    }

    // "5 .. and the bracket "(" inside 2 others"
    private static void brackets() {
        Checks.due("one inside another", 1, () -> Checks.run(Checks.router(FLOW), "again 1(again 1(top 1;););"));
        Checks.runFails(FLOW, "again 1(again 1(again 1(top 1;););", 5, 23);
        Checks.runFails(FLOW, "again 1(again 1(again 1(", 5, 23);
        Checks.runFails(FLOW, "again 1(again 1(again 1 top 1;););", 1, 24);
        Checks.runFails(FLOW, "again 1(again 1(top 1;);again 1(again 1(", 5, 39);
        Checks.due("two inside one, one behind the other", 4, () ->
            Checks.run(Checks.router(FLOW), "again 1(again 1(top 1;);again 1(top 2;););again 1(again 2(top 3;););"));
        Checks.runFails(FLOW, "again 1();)", 1, 10);
        Checks.runFails(FLOW, ")", 1, 0);
    }

    // "(then only the buffer and the error position change)" of run
    private static void runOfAnError() {
        String[] texts = {"tick 1;tip", "send a 1;tick 51;", "top 1;stop b;", "top 1;".repeat(31), "again 2(tick 1;", "~"};
        int[] codes = {1, 2, 4, 5, 1, 1};
        for (int i = 0; i < texts.length; i++) {
            EarlyDrops x = Checks.lived();
            String text = texts[i];
            Checks.due("run of '" + text + "'", -10 - codes[i], () -> Checks.run(x, text));
            Checks.due("another error position", true, () -> x.errorPosition() >= 0);
            Checks.same("all else is as before '" + text + "'", Checks.lived(), x);
        }
    }

    // "Returns the position of the error of the latest call of load or run; NONE if that call had no error, or there was no
    // such call."
    private static void errorPositions() {
        EarlyDrops x = new EarlyDrops();
        Checks.due("no such call", -1, x::errorPosition);
        x.feed(126, 0, 0, 0, 0);
        Checks.due("feed is none", -1, x::errorPosition);
        Checks.due("an error at 0", -11, x::load);
        Checks.due("of load", 0, x::errorPosition);
        x.setTop(5);
        x.undo();
        x.report();
        Checks.due("other calls leave it", 0, x::errorPosition);
        Checks.run(x, " tip");
        Checks.due("of run", 1, x::errorPosition);
        Checks.load(x, "router 0 1");
        Checks.due("of load again", 7, x::errorPosition);
        x.run();
        Checks.due("run had none", -1, x::errorPosition);
        Checks.load(x, "router 1");
        Checks.due("at the length of the text", 8, x::errorPosition);
        Checks.load(x, "router 1 1");
        Checks.due("load had none", -1, x::errorPosition);
    }

    private static void whatRunsDo() {
        timesNone();
        timesTwenty();
        endsAsAWhole();
        fortyOrders();
        asAWhole();
    }

    // "TIMES 0 to 20", ""again" its script TIMES times": 0
    private static void timesNone() {
        EarlyDrops x = Checks.router(FLOW);
        Checks.due("none", 0, () -> Checks.run(x, "again 0(tick 1;);"));
        Checks.due("none within", 2, () -> Checks.run(x, "again 2(again 0(tick 1;);top 7;);"));
        Checks.due("one within none", 0, () -> Checks.run(x, "again 0(again 1(tick 1;);top 8;);"));
        Checks.due("nothing was done", "0 7", () -> x.size(7) + " " + x.size(4));
        Checks.due("what stands behind it is done", 1, () -> Checks.run(x, "again 0(tick 1;);tick 2;"));
        Checks.due("time 2", 2, () -> x.size(7));
    }

    // ""again" its script TIMES times": 20
    private static void timesTwenty() {
        EarlyDrops x = Checks.router(FLOW);
        Checks.due("twenty", 20, () -> Checks.run(x, "again 20(tick 1;);"));
        Checks.due("time 20", 20, () -> x.size(7));
        Checks.due("two by three by two", 14, () -> Checks.run(x, "again 2(tick 1;again 3(tick 1;tick 1;););"));
        Checks.due("time 34", 34, () -> x.size(7));
        Checks.due("the inner one begins anew each time", 21, () -> Checks.run(x, "again 3(again 2(tick 1;);again 4(top 1;);again 1(top 2;););"));
        Checks.due("time 40", 40, () -> x.size(7));
        Checks.due("twenty by twenty of nothing", 1, () -> Checks.run(x, "again 20(again 20();again 20(););tick 1;"));
        Checks.due("time 41", 41, () -> x.size(7));
    }

    // "until one would return a negative error code; it ends as a whole then (what was done ahead of that stays)"
    private static void endsAsAWhole() {
        EarlyDrops x = Checks.router(FLOW);
        Checks.due("an order that is so already", 1, () -> Checks.run(x, "top 1;start a;top 2;"));
        Checks.due("what was done stays", 1, () -> x.size(4));
        Checks.due("it is recorded", 1, () -> x.size(14));
        Checks.due("and is no error", -1, x::errorPosition);
        Checks.due("inside two brackets", 2, () -> Checks.run(x, "again 3(again 3(stop a;top 3;);top 4;);top 5;"));
        Checks.due("as a whole", "3 0", () -> x.size(4) + " " + x.size(12));
        Checks.due("the first order", 0, () -> Checks.run(x, "stop a;top 6;"));
        Checks.due("recorded too", 3, () -> x.size(14));
        EarlyDrops y = Checks.router(FLOW);
        for (int i = 0; i < 5; i++) {
            Checks.run(y, "again 20(tick 50;tick 49;);again 5(tick 1;);");
        }
        Checks.run(y, "tick 50;tick 40;");
        Checks.due("time 9990", 9990, () -> y.size(7));
        Checks.due("up to 9999", 2, () -> Checks.run(y, "tick 8;tick 1;tick 1;top 7;"));
        Checks.due("not beyond", "9999 6554", () -> y.size(7) + " " + y.size(4));
        y.undo();
        Checks.due("no part of a tick's ticks", 0, () -> Checks.run(y, "tick 10;tick 1;"));
        Checks.due("time 9990 still", 9990, () -> y.size(7));
        Checks.due("sends let in none, and that is no error code", 2, () -> Checks.run(y, "send a 20;send a 1;"));
    }

    // "and when 40 orders ("again" not counted) were done"
    private static void fortyOrders() {
        EarlyDrops x = Checks.router(FLOW);
        Checks.due("39", 39, () -> Checks.run(x, "again 13(tick 1;tick 1;tick 1;);"));
        Checks.due("40", 40, () -> Checks.run(x, "again 20(tick 1;tick 1;);"));
        Checks.due("time 79", 79, () -> x.size(7));
        Checks.due("no 41st", 40, () -> Checks.run(x, "again 20(tick 1;tick 1;);top 9;"));
        Checks.due("it was not done", "119 6554", () -> x.size(7) + " " + x.size(4));
        Checks.due("amid a round", 40, () -> Checks.run(x, "again 20(tick 1;top 5;tick 1;);"));
        Checks.due("the 40th is the first of a round", "146 5", () -> x.size(7) + " " + x.size(4));
        Checks.due("again is not counted", 40, () -> Checks.run(x, "again 20(again 2();again 2(tick 1;););"));
        Checks.due("40 ticks", 186, () -> x.size(7));
        Checks.due("the answer is 40 at most", 40, () -> Checks.run(x, "again 20(again 20(tick 1;););"));
        Checks.due("40 ticks more", 226, () -> x.size(7));
    }

    // "Every other call of these is recorded (run as a whole)."
    private static void asAWhole() {
        EarlyDrops x = Checks.lived();
        Checks.run(x, "tick 3;send a 2;limits 1 2;top 1;weight 1;gentle 0;stop a;again 2(tick 1;);start a;");
        Checks.due("one change", 3, () -> x.size(14));
        Checks.due("undone at once", 2, x::undo);
        Checks.same("all of it", Checks.lived(), x);
    }
}
