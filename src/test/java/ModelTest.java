import java.lang.reflect.InvocationTargetException;
import java.lang.reflect.Method;
import java.lang.reflect.Modifier;
import java.util.ArrayList;
import java.util.Arrays;
import java.util.Comparator;
import java.util.List;
import java.util.Random;

/** Runs of up to 512 calls, drawn from fixed seeds, on the class and on the model: every answer must be the same. */
public final class ModelTest {
    private static final int RUNS = 1500;
    private static final List<Method> FACE = face();

    private final Random random;
    private final EarlyDrops subject = new EarlyDrops();
    private final Model model = new Model();
    private final StringBuilder told = new StringBuilder();
    private int calls;
    private boolean isReportDue = true;

    private ModelTest(long seed) {
        random = new Random(seed);
    }

    private static List<Method> face() {
        List<Method> found = new ArrayList<>();
        for (Method m : EarlyDrops.class.getDeclaredMethods()) {
            if (Modifier.isPublic(m.getModifiers())) found.add(m);
        }
        found.sort(Comparator.comparing(Method::getName));
        return found;
    }

    public static void main(String[] args) throws Exception {
        int runs = args.length > 0 ? Integer.parseInt(args[0]) : RUNS;
        for (int run = 0; run < runs; run++) {
            ModelTest test = new ModelTest(run);
            String wrong = test.go();
            if (wrong != null) {
                System.out.println("run " + run + "\n" + test.told + wrong);
                System.exit(1);
            }
        }
        System.out.println(runs + " runs as the model's");
    }

    private String go() throws Exception {
        if (random.nextInt(20) != 0) {
            String wrong = text(Texts.setup(random), "load");
            if (wrong != null) return wrong;
        }
        for (int late = random.nextInt(8); late > 0 && late < 7; late--) {
            String wrong = text("again 20 (tick 50; tick 50;);", "run");
            if (wrong != null) return wrong;
        }
        int length = 60 + random.nextInt(400);
        while (calls < length) {
            String wrong = step();
            if (wrong != null) return wrong;
        }
        return null;
    }

    private String step() throws Exception {
        int kind = random.nextInt(100);
        if (kind < 4) return text(Texts.script(random, names()), "run");
        if (kind < 5) return text(Texts.setup(random), "load");
        if (kind < 20) return call(named("tick"), random.nextInt(8) == 0 ? around(1, 50) : 1 + random.nextInt(3));
        if (kind < 25) return call(named("send"), flow(), around(1, 12));
        Method m = FACE.get(random.nextInt(FACE.size()));
        boolean rare = m.getName().matches("load|feed|restore|best.*|gain");
        if (rare && random.nextInt(4) != 0) return null;
        return call(m, arguments(m));
    }

    private Method named(String name) {
        return FACE.stream().filter(m -> m.getName().equals(name)).findFirst().orElseThrow();
    }

    private List<String> names() {
        List<String> names = new ArrayList<>();
        for (int flow = 0; flow < model.size(11); flow++) {
            StringBuilder name = new StringBuilder();
            for (int i = 0; model.letter(flow, i) >= 0; i++) name.append((char) model.letter(flow, i));
            names.add(name.toString());
        }
        return names;
    }

    private int flow() {
        int flows = model.size(11);
        return flows == 0 || random.nextInt(15) == 0 ? around(-1, 6) : random.nextInt(flows);
    }

    private int around(int from, int to) {
        int kind = random.nextInt(24);
        if (kind == 0) return from - 1;
        if (kind == 1) return to + 1;
        if (kind == 2) return random.nextInt();
        if (kind < 6) return random.nextBoolean() ? from : to;
        return from + random.nextInt(Math.max(1, to - from + 1));
    }

    private Object[] arguments(Method m) {
        int kept = model.size(13);
        int waiting = model.size(8);
        int all = random.nextInt(3) == 0 ? -1 : flow();
        int ticks = random.nextInt(3) == 0 ? around(0, 200) : around(1, 30);
        int average = random.nextInt(4) == 0 ? around(0, 99999) : around(0, 45000);
        int min = around(0, random.nextBoolean() ? 39 : 6);
        switch (m.getName()) {
            case "feed": return new Object[] {random.nextInt(), 0, around(0, 200), 0, 32};
            case "size": return new Object[] {around(0, 14)};
            case "flow": return new Object[] {flow(), around(0, 10)};
            case "letter": return new Object[] {flow(), around(0, 8)};
            case "packet": return new Object[] {around(0, waiting), around(0, 2)};
            case "account": return new Object[] {all, around(0, 7)};
            case "decision": return new Object[] {around(0, kept), around(0, 7)};
            case "meanWait": return new Object[] {all};
            case "base": return new Object[] {average};
            case "chance": return new Object[] {average, random.nextBoolean() ? around(0, 9999) : around(0, 20)};
            case "burst": return new Object[] {around(1, 60)};
            case "sureBurst": return new Object[] {around(1, 100)};
            case "accountIn": return new Object[] {all, around(0, 7), ticks};
            case "windowIn": return new Object[] {flow(), ticks};
            case "queueIn": case "averageIn": case "longest": case "gain": case "bestWeight": case "bestTop": case "tick":
                return new Object[] {ticks};
            case "send": return new Object[] {flow(), around(1, 40)};
            case "setLimits": return new Object[] {min, around(min + 1, random.nextBoolean() ? 40 : min + 6)};
            case "setTop": return new Object[] {around(0, 65536)};
            case "setWeight": return new Object[] {around(0, 10)};
            case "setGentle": case "save": case "restore": return new Object[] {around(0, 1)};
            case "setOn": return new Object[] {flow(), random.nextBoolean()};
            case "reportByte": return new Object[] {around(0, 80)};
            default: return new Object[0];
        }
    }

    private String text(String text, String reader) throws Exception {
        for (int at = 0; at < text.length(); at += 20) {
            Object[] five = new Object[5];
            for (int k = 0; k < 5; k++) {
                int packed = 0;
                for (int j = 0; j < 4; j++) {
                    int place = at + 4 * k + j;
                    packed = packed << 8 | (place < text.length() ? text.charAt(place) : 0);
                }
                five[k] = packed;
            }
            String wrong = call(named("feed"), five);
            if (wrong != null) return wrong;
        }
        told.append("  ").append(text).append('\n');
        String wrong = call(named(reader));
        return wrong != null ? wrong : call(named("errorPosition"));
    }

    /** What the document leaves free: looks ahead that pass the time 9999, and a report that a setup has come behind. */
    private boolean isFree(String name, Object[] arguments) {
        if (name.equals("reportByte")) return !isReportDue;
        if (name.equals("dropIn")) return model.size(7) + 200 > 9999;
        boolean isLook = name.matches("\\w+In|longest|best\\w+|gain");
        return isLook && (int) arguments[arguments.length - 1] > 9999 - model.size(7);
    }

    private String call(Method m, Object... arguments) throws Exception {
        if (isFree(m.getName(), arguments)) return null;
        calls++;
        Object got = answer(m, subject, arguments);
        Object due = answer(Model.class.getMethod(m.getName(), m.getParameterTypes()), model, arguments);
        if (m.getName().equals("report")) isReportDue = true;
        if (m.getName().equals("load") && (int) due >= 0) isReportDue = false;
        told.append(m.getName()).append(Arrays.toString(arguments)).append(" = ").append(got).append('\n');
        return got.equals(due) ? null : "due is " + due;
    }

    private static Object answer(Method m, Object on, Object[] arguments) throws Exception {
        m.setAccessible(true);
        try {
            return m.invoke(on, arguments);
        } catch (InvocationTargetException e) {
            return "throws " + e.getCause().getClass().getName();
        }
    }
}
