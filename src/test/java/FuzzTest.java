import java.lang.reflect.InvocationTargetException;
import java.lang.reflect.Method;
import java.util.ArrayList;
import java.util.Arrays;
import java.util.List;
import java.util.Random;

/** Runs of calls by fixed seeds, each answer held against the Model's. An argument tells how many runs. */
public final class FuzzTest {
    private static final String[] CALLS = {"count", "hole", "leak", "minutes", "pump", "undo", "flat", "dip", "listen",
        "weight", "odds", "next", "plan", "planned", "seek", "air", "line", "holds", "glue", "patch", "feel", "fits",
        "cause", "ride", "best", "dark", "mean", "tacks", "cell", "thorn", "quarter", "sweep", "seeks", "enough", "ofInch",
        "ofSide", "flatIf", "which", "rides", "image", "restore", "fault"};

    private final Random random;
    private final BucketTube tube = new BucketTube();
    private final Model model = new Model();
    private final List<String> said = new ArrayList<>();
    private final int inchesTold;
    private boolean differs = false;

    private FuzzTest(long seed) {
        random = new Random(seed);
        inchesTold = random.nextInt(3) == 0 ? 12 : 12 + random.nextInt(73);
    }

    public static void main(String[] args) throws Exception {
        int runs = args.length > 0 ? Integer.parseInt(args[0]) : 250;
        int wrong = 0;
        for (int i = 0; i < runs && wrong < 5; i++) {
            FuzzTest run = new FuzzTest(i);
            run.go();
            if (run.differs) {
                wrong++;
                System.out.println("run " + i + ":");
                for (String s : run.said.subList(Math.max(0, run.said.size() - 60), run.said.size())) {
                    System.out.println("  " + s);
                }
            }
        }
        System.out.println(runs + " runs, " + wrong + " differ");
        if (wrong != 0) {
            System.exit(1);
        }
    }

    private void go() throws Exception {
        int calls = 60 + random.nextInt(60);
        int style = random.nextInt(4);
        for (int i = 0; i < calls && !differs; i++) {
            if (i == 0 || random.nextInt(30) == 0) {
                tell();
            }
            String name = CALLS[random.nextInt(CALLS.length)];
            if (style == 0 && random.nextInt(2) == 0) {
                name = new String[] {"dip", "listen", "thorn", "minutes", "patch", "undo", "pump"}[random.nextInt(7)];
            }
            if (style == 1 && random.nextInt(3) == 0) {
                name = "thorn";
            }
            ask(name, arguments(name));
        }
    }

    private void tell() throws Exception {
        int texts = 1 + random.nextInt(8);
        for (int i = 0; i < texts && !differs; i++) {
            String text = text();
            if (i < texts - 1) {
                text = spoiled(text);
            }
            if (text.length() > 700) {
                text = text.substring(0, 700);
            }
            for (int[] r : Due.fives(text)) {
                ask("feed", new Object[] {r[0], r[1], r[2], r[3], r[4]});
            }
            said.add("text " + text.length() + ": " + text);
            ask("shed", new Object[] {text.length()});
            ask("fault", new Object[0]);
        }
    }

    private Object[] arguments(String name) {
        switch (name) {
            case "count": return of(about(20));
            case "hole": return of(about(5), about(4));
            case "leak": case "flat": return of(random.nextBoolean());
            case "minutes": return of(about(random.nextBoolean() ? 20 : 600), random.nextBoolean());
            case "dip": return of(inch(), about(random.nextBoolean() ? 5 : 600));
            case "listen": return of(about(3), about(random.nextBoolean() ? 20 : 600));
            case "weight": case "odds": return of(about(4 * inchesTold - 1));
            case "next": case "tacks": return of(about(2));
            case "plan": return of(about(random.nextBoolean() ? 60 : 600));
            case "planned": case "feel": case "fits": case "thorn": case "ofInch": return of(inch());
            case "seek": return of(random.nextInt(), random.nextBoolean(), about(1));
            case "air": return of(about(60));
            case "line": case "enough": return of(random.nextInt(3) == 0 ? 990 + random.nextInt(12) : about(1000));
            case "holds": return of(about(5), about(60), about(100), about(100));
            case "glue": return of(about(5), about(100), about(100), about(100));
            case "patch": return of(about(5), about(60), about(100), about(100), random.nextInt());
            case "cause": return of(about(5), random.nextInt(6) - 1);
            case "ride": return of(about(60), about(1));
            case "best": return of(about(60), about(100), about(100), about(100), about(1));
            case "dark": return of(about(6));
            case "mean": return of(about(1));
            case "cell": return of(about(39));
            case "sweep": return of(random.nextInt(), random.nextBoolean(), about(60), about(1));
            case "seeks": return of(random.nextInt(), about(6), random.nextBoolean(), about(2));
            case "ofSide": return of(about(3));
            case "flatIf": return of(about(random.nextInt(64)), random.nextBoolean());
            case "which": return of(random.nextBoolean() ? 0 : gone(), random.nextBoolean(), about(1));
            case "rides": return of(about(random.nextBoolean() ? 4 : 60));
            default: return new Object[0];
        }
    }

    private int gone() {
        return random.nextBoolean() ? model.leak(random.nextBoolean()) : random.nextInt(3000) - 100;
    }

    private int inch() {
        return about(inchesTold - 1);
    }

    /** 0 to most, now and then its ends or a little out of them, or far. */
    private int about(int most) {
        switch (random.nextInt(24)) {
            case 0: return -1;
            case 1: return most + 1;
            case 2: return most;
            case 3: return 0;
            case 4: return random.nextInt(4) == 0 ? random.nextInt() : random.nextInt(most + 1);
            default: return random.nextInt(most + 1);
        }
    }

    private static Object[] of(Object... all) {
        return all;
    }

    private void ask(String name, Object[] arguments) throws Exception {
        Object got = answer(tube, name, arguments);
        Object want = answer(model, name, arguments);
        said.add(name + Arrays.toString(arguments) + " = " + got + (got.equals(want) ? "" : ", due is " + want));
        differs |= !got.equals(want);
    }

    private static Object answer(Object of, String name, Object[] arguments) throws Exception {
        for (Method m : of.getClass().getDeclaredMethods()) {
            if (m.getName().equals(name) && m.getParameterCount() == arguments.length
                    && (m.getModifiers() & java.lang.reflect.Modifier.PUBLIC) != 0) {
                try {
                    Object answer = m.invoke(of, arguments);
                    return answer == null ? "nothing" : answer;
                } catch (InvocationTargetException e) {
                    return e.getCause().getClass().getName();
                }
            }
        }
        throw new IllegalStateException("no method " + name);
    }

    private int number(int least, int most) {
        return least + random.nextInt(most - least + 1);
    }

    private String side() {
        return new String[] {"outer", "left", "right", "rim"}[random.nextInt(4)];
    }

    /** A text that is mostly without a fault. */
    private String text() {
        StringBuilder b = new StringBuilder();
        if (inchesTold != 48 || random.nextBoolean()) {
            b.append("tube ").append(inchesTold).append(';');
        }
        List<String> lines = new ArrayList<>();
        int holes = random.nextInt(7);
        boolean close = random.nextBoolean();
        for (int i = 0; i < holes; i++) {
            int at = close ? number(0, 5) * (inchesTold - 1) % inchesTold : number(0, inchesTold - 1);
            lines.add("hole " + at + " " + side() + " " + number(1, random.nextBoolean() ? 3 : 24)
                    + (random.nextInt(3) == 0 ? " slow" : ""));
        }
        some(lines, "hand " + number(1, 9));
        some(lines, "miss " + (random.nextBoolean() ? number(90, 99) : number(1, 99)));
        some(lines, "noise " + number(1, 99));
        some(lines, "pressure " + number(random.nextInt(4) == 0 ? 1 : 10, 100));
        some(lines, "mark " + number(0, inchesTold - 1));
        some(lines, "clung " + number(0, 99) + " " + number(1, 99));
        for (String c : new String[] {"thorn", "kerb", "spoke", "valve"}) {
            some(lines, "cause " + c + " " + (random.nextBoolean() ? 0 : number(0, 99)));
        }
        boolean alike = random.nextBoolean();
        int tries = random.nextInt(7);
        for (int i = 0; i < tries; i++) {
            lines.add("try " + (alike ? number(1, 4) : number(1, 99)) + " " + (alike ? number(1, 4) : number(1, 99)));
        }
        int riders = random.nextInt(9);
        for (int i = 0; i < riders; i++) {
            lines.add("rider " + number(0, 39) + " " + number(0, 39) + " " + number(0, 23)
                    + (random.nextInt(3) > 0 ? " flat" : " well"));
        }
        if (random.nextBoolean()) {
            lines.add("leak " + (random.nextBoolean() ? expr(0, true) : new String[] {"size*pressure+minute*load",
                "size * pressure / 4", "minute/9*size", "(20<minute)*size*99", "size-side+load*minute"}[random.nextInt(5)]));
        }
        if (random.nextBoolean()) {
            lines.add("holds " + (random.nextBoolean() ? expr(0, false) : "minutes*(9-near)-cold/4-damp/2+size"));
        }
        if (random.nextBoolean()) {
            java.util.Collections.shuffle(lines, random);
        }
        for (String line : lines) {
            if (b.length() + line.length() + 1 <= 700) {
                b.append(line).append(random.nextInt(20) == 0 ? " ;\n" : ";");
            }
        }
        return b.toString();
    }

    private void some(List<String> lines, String line) {
        if (random.nextInt(3) == 0) {
            lines.add(line);
        }
    }

    private String expr(int depth, boolean leak) {
        int kind = random.nextInt(depth > 5 ? 3 : 12);
        switch (kind) {
            case 0: return "" + random.nextInt(random.nextBoolean() ? 10 : 10000);
            case 1: case 2:
                return leak ? new String[] {"size", "side", "pressure", "minute", "load"}[random.nextInt(5)]
                        : new String[] {"size", "side", "minutes", "cold", "damp", "near"}[random.nextInt(6)];
            case 3: return "not " + expr(depth + 1, leak);
            case 4: case 5: return "(" + expr(depth + 1, leak) + ")";
            default:
                String sign = new String[] {"+", "-", "*", "/", "<", "=", " and ", " or ", "+", "*"}[random.nextInt(10)];
                return expr(depth + 1, leak) + sign + expr(depth + 1, leak);
        }
    }

    /** The same text with a token or a byte taken out, put in or put for another one. */
    private String spoiled(String text) {
        StringBuilder b = new StringBuilder(text);
        int times = 1 + random.nextInt(2);
        String[] put = {"hole", "tube", ";", "(", ")", "not ", " not not not not not not not ", "12345", "0", "99", "100",
            "size", "minutes", "minute", "-", "<", "=", "or", "and", "A", "\t", "slow", "cause thorn 3;", "leak 1;",
            "hand 2;", "((((((", ")))))", "rider 1 2 3 flat;", "try 1 1;", "hole 1 left 1;", "holds minute;", "\u00e9", " ",
            "cause thorn 0;cause kerb 0;cause spoke 0;cause valve 0;", "leak (((((1)))));", "mark 11;", "00012", "0012"};
        for (int i = 0; i < times; i++) {
            int at = random.nextInt(b.length() + 1);
            if (random.nextInt(3) == 0) {
                at = Math.max(0, b.indexOf(";", at) + 1);
            }
            switch (random.nextInt(4)) {
                case 0: b.delete(at, Math.min(b.length(), at + 1 + random.nextInt(4))); break;
                case 1: b.setLength(at); break;
                default: b.insert(at, put[random.nextInt(put.length)]); break;
            }
        }
        return b.toString();
    }
}
