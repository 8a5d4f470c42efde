import java.util.ArrayList;
import java.util.List;
import java.util.Random;

/** Setups and scripts drawn at random, some of them with an error. */
final class Texts {
    private static final String[] NAMES = {"web", "mail", "a", "b", "voice", "bulkdata", "flow", "marks"};

    private final Random random;
    private final List<String> names;
    private final List<Integer> statements = new ArrayList<>();
    private final StringBuilder text = new StringBuilder();

    private Texts(Random random, List<String> names) {
        this.random = random;
        this.names = names;
    }

    static String setup(Random random) {
        Texts t = new Texts(random, new ArrayList<>());
        t.word("router").number(1, t.chance(2) ? 40 : 8, 40).number(1, t.chance(3) ? 9 : 2, 9);
        int statements = t.chance(4) ? 14 : 2 + random.nextInt(6);
        for (int i = 0; i < statements; i++) {
            t.sign(';').statement();
        }
        return t.spoiled();
    }

    /** A script for a router whose flows have these names. */
    static String script(Random random, List<String> names) {
        Texts t = new Texts(random, names);
        t.orders(t.chance(12) ? 34 : random.nextInt(7), 0);
        return t.spoiled();
    }

    private void statement() {
        int kind = random.nextInt(chance(4) ? 10 : 9);
        boolean second = statements.contains(kind);
        if (second && !chance(30)) kind = 8;
        statements.add(kind);
        switch (kind) {
            case 0: limits(); break;
            case 1: word("top").number(0, 65536, 65536); break;
            case 2: word("weight").number(0, chance(2) ? 10 : 2, 10); break;
            case 3: word("gentle").number(0, 1, 1); break;
            case 9: word("seed").number(0, 9999, 9999); break;
            default:
                int start = 1 + random.nextInt(9);
                word("flow").newName().number(1, chance(3) ? 99 : 6, 99).number(1, chance(3) ? 50 : 5, 50);
                number(start, start, 9).number(start, 9, 9);
                if (chance(2)) word("marks");
        }
    }

    private Texts limits() {
        int min = random.nextInt(chance(2) ? 40 : 5);
        return word("limits").number(min, min, 39).number(min + 1, chance(2) ? 40 : Math.min(40, min + 5), 40);
    }

    private void orders(int count, int depth) {
        for (int i = 0; i < count; i++) {
            order(depth);
            sign(';');
        }
    }

    private void order(int depth) {
        switch (random.nextInt(12)) {
            case 0: limits(); break;
            case 1: word("top").number(0, 65536, 65536); break;
            case 2: word("weight").number(0, 10, 10); break;
            case 3: word("gentle").number(0, 1, 1); break;
            case 4: word("stop").name(); break;
            case 5: word("start").name(); break;
            case 6: case 7: word("send").name().number(1, chance(3) ? 40 : 6, 40); break;
            case 8: case 9:
                if (depth < 2 || chance(6)) {
                    word("again").number(0, chance(3) ? 20 : 3, 20).sign('(').orders(random.nextInt(4), depth + 1);
                    sign(')');
                    break;
                }
            default: word("tick").number(1, chance(5) ? 50 : 4, 50);
        }
    }

    private boolean chance(int of) {
        return random.nextInt(of) == 0;
    }

    private Texts newName() {
        String name = NAMES[random.nextInt(NAMES.length)];
        for (int i = 0; i < 20 && names.contains(name) && !chance(60); i++) {
            name = NAMES[random.nextInt(NAMES.length)];
        }
        names.add(name);
        return word(chance(60) ? "toolongname" : name);
    }

    private Texts name() {
        if (names.isEmpty() || chance(60)) return word(NAMES[random.nextInt(NAMES.length)]);
        return word(names.get(random.nextInt(names.size())));
    }

    private Texts word(String word) {
        if (text.length() > 0 && Character.isLetter(text.charAt(text.length() - 1)) || chance(2)) blank();
        text.append(chance(300) ? word + "x" : word);
        return this;
    }

    private Texts number(int from, int to, int most) {
        if (text.length() > 0 && Character.isDigit(text.charAt(text.length() - 1)) || chance(2)) blank();
        int value = from + random.nextInt(to - from + 1);
        if (chance(200)) value = most + 1;
        if (chance(40)) text.append("00");
        if (chance(300)) text.append("000000");
        text.append(value);
        return this;
    }

    private Texts sign(char sign) {
        if (chance(3)) blank();
        text.append(sign);
        return this;
    }

    private void blank() {
        text.append(chance(8) ? "\n" : " ");
        if (chance(10)) blank();
    }

    private String spoiled() {
        if (text.length() > 0 && chance(7)) {
            int at = random.nextInt(text.length());
            switch (random.nextInt(3)) {
                case 0: text.setLength(at); break;
                case 1: text.deleteCharAt(at); break;
                default: text.insert(at, "; )(x9A\t~\u00e9".charAt(random.nextInt(10)));
            }
        }
        if (chance(10)) blank();
        if (text.length() > 500) text.setLength(500);
        return text.toString();
    }
}
