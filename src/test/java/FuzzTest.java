import java.lang.reflect.Method;
import java.util.ArrayList;
import java.util.HashMap;
import java.util.List;
import java.util.Map;
import java.util.Random;

/** Random runs of calls, each set against the Oracle. Arguments: how many runs, and from which one. */
public final class FuzzTest {
    private static final String[] NAMES = {"feed", "end", "town", "rule", "street", "open", "print", "misprint",
        "shown", "by", "walker", "about", "step", "soonest", "way", "comes", "round", "questions", "cheap", "wrong",
        "errand", "ways", "sight", "weekdays", "came", "had", "built", "seed", "strangers", "count", "image", "back"};
    private static final int[] WILD = {-2147483648, -3, -2, -1, 4, 7, 8, 10, 12, 13, 24, 100, 121, 201, 360, 401,
        99999, 100000, 2147483647};

    private final Random random;
    private final MondayMaps program = new MondayMaps();
    private final Oracle oracle = new Oracle();
    private final Map<String, Method> ofProgram = new HashMap<>();
    private final Map<String, Method> ofOracle = new HashMap<>();
    private final List<String> told = new ArrayList<>();
    private int calls;
    private boolean wrong;
    private int corners = 2;

    private FuzzTest(long seed) {
        random = new Random(seed);
        for (Method m : MondayMaps.class.getDeclaredMethods()) {
            ofProgram.put(m.getName(), m);
        }
        for (Method m : Oracle.class.getDeclaredMethods()) {
            ofOracle.put(m.getName(), m);
        }
    }

    public static void main(String[] args) throws Exception {
        int runs = args.length > 0 ? Integer.parseInt(args[0]) : 400;
        int first = args.length > 1 ? Integer.parseInt(args[1]) : 1;
        int bad = 0;
        long calls = 0;
        for (int run = first; run < first + runs; run++) {
            FuzzTest f = new FuzzTest(run);
            f.play();
            calls += f.calls;
            if (f.wrong) {
                bad++;
                System.out.println("run " + run + ":\n  " + String.join("\n  ", f.told));
                if (bad >= 3) {
                    break;
                }
            }
        }
        System.out.println("FuzzTest: " + calls + " calls, " + bad + " runs wrong");
        System.exit(bad == 0 ? 0 : 1);
    }

    private int call(String name, int... args) throws Exception {
        Object[] boxed = new Object[args.length];
        StringBuilder text = new StringBuilder(name).append('(');
        for (int i = 0; i < args.length; i++) {
            boxed[i] = args[i];
            text.append(i == 0 ? "" : ", ").append(args[i]);
        }
        int want = (Integer) ofOracle.get(name).invoke(oracle, boxed);
        int got = (Integer) ofProgram.get(name).invoke(program, boxed);
        calls++;
        told.add(text.append(") answered ").append(got).append(got == want ? "" : ", due is " + want).toString());
        wrong |= got != want;
        return got;
    }

    private void feed(String text) throws Exception {
        told.add("// " + text);
        call("end", 0);
        for (int at = 0; at < text.length(); at += 20) {
            int[] n = new int[5];
            for (int i = 0; i < 20; i++) {
                int b = at + i < text.length() ? text.charAt(at + i) : 0;
                n[i / 4] = n[i / 4] << 8 | b;
            }
            call("feed", n);
        }
        call("end", text.length());
    }

    private int below(int n) {
        return random.nextInt(n);
    }

    private boolean chance(int percent) {
        return below(100) < percent;
    }

    private void play() throws Exception {
        int mode = below(4);
        for (int i = below(4); i > 0; i--) {
            sayRule();
        }
        if (chance(90)) {
            sayTown();
        }
        while (calls < 250 && !wrong) {
            if (chance(2)) {
                sayTown();
            } else if (chance(6)) {
                sayRule();
            } else {
                ask(mode);
            }
        }
    }

    private void sayTown() throws Exception {
        String text = townText();
        feed(spoiled(text));
        call("town");
        for (int i = 0; i < 4; i++) {
            call("count", i);
        }
        for (int i = below(5); i > 0; i--) {
            call("print", below(7));
        }
        for (int i = below(4); i > 0; i--) {
            call("walker", corner(), corner(), below(2), below(3) - 1, hour());
        }
        for (int i = below(4); i > 0; i--) {
            call("misprint", below(3), below(6), below(4));
        }
    }

    private void sayRule() throws Exception {
        feed(spoiled(ruleText()));
        call("rule");
    }

    private String spoiled(String text) {
        StringBuilder s = new StringBuilder(text.length() > 400 ? text.substring(0, 400) : text);
        if (chance(75)) {
            return s.toString();
        }
        String bytes = " ;.<>=[]+-*/0123456789abcnotorifgx\0\u00e9\t;; ";
        for (int i = 1 + below(2); i > 0 && s.length() > 0; i--) {
            int at = below(s.length());
            char c = bytes.charAt(below(bytes.length()));
            switch (below(4)) {
                case 0 -> s.setCharAt(at, c);
                case 1 -> s.deleteCharAt(at);
                case 2 -> s.insert(at, c);
                default -> s.setLength(at);
            }
        }
        return s.length() > 400 ? s.substring(0, 400) : s.toString();
    }

    private String gap() {
        return " ".repeat(chance(90) ? 1 : 1 + below(3));
    }

    private String townText() {
        corners = 2 + below(chance(50) ? 4 : 9);
        StringBuilder s = new StringBuilder("corners" + gap() + (chance(3) ? below(13) : corners));
        int streets = below(chance(3) ? 15 : 13);
        int told = 0;
        String style = new String[] {".><=", "=", "=====.><", "><", "...=", "....><="}[below(6)];
        for (int i = 0; i < streets; i++) {
            int a = below(corners);
            int b = (a + 1 + below(corners - 1)) % corners;
            if (chance(1)) {
                b = below(corners + 1);
            }
            s.append(";").append("street" + gap() + a + gap() + b + gap() + (chance(1) ? below(12) : 1 + below(9)) + gap());
            char same = style.charAt(below(style.length()));
            boolean steady = chance(30);
            for (int d = 0; d < 7; d++) {
                s.append(steady ? same : style.charAt(below(style.length())));
            }
            told++;
            if (chance(8)) {
                s.append(";lift " + below(told) + " " + liftHours());
            }
            if (chance(12)) {
                s.append(";saint " + below(corners) + " " + (chance(70) ? below(30) : below(361)));
            }
        }
        for (int i = below(chance(3) ? 10 : 3); i > 0; i--) {
            s.append(" ;saint " + below(corners) + " " + (chance(70) ? below(20) : below(360)));
        }
        return s.toString();
    }

    private String liftHours() {
        int from = below(24);
        int to = chance(3) ? below(26) : from + 1 + below(24 - from);
        return chance(10) ? "0 24" : from + " " + to;
    }

    private String ruleText() {
        StringBuilder s = new StringBuilder();
        for (int i = below(chance(4) ? 14 : 5); i >= 0; i--) {
            s.append(new String[] {"go", "aside", "ask", "wait", "go", "ask"}[below(6)]);
            if (chance(60)) {
                s.append(gap() + "if" + gap() + test(chance(5) ? 12 : below(5)));
            }
            s.append(i > 0 ? ";" : "");
        }
        return s.toString();
    }

    private String test(int deep) {
        StringBuilder s = new StringBuilder(fact(deep));
        for (int i = below(4); i > 1; i--) {
            s.append(chance(50) ? " and " : " or ").append(fact(deep));
        }
        return s.toString();
    }

    private String fact(int deep) {
        if (deep > 0 && chance(deep > 8 ? 95 : 40)) {
            return chance(50) ? "not " + fact(deep - 1) : "[" + test(deep > 8 ? 0 : deep - 1) + "]";
        }
        return sum() + new String[] {"<", "<=", "=", ">=", ">", " = "}[below(6)] + sum();
    }

    private String sum() {
        StringBuilder s = new StringBuilder(value());
        for (int i = below(4); i > 1; i--) {
            s.append("+-*/".charAt(below(4))).append(value());
        }
        return s.toString();
    }

    private String value() {
        if (chance(40)) {
            return "" + (chance(70) ? below(12) : below(chance(5) ? 1000000 : 30));
        }
        return new String[] {"hour", "day", "date", "corner", "goal", "shut", "left", "steps", "asked",
            "came"}[below(10)];
    }

    /** Dear calls of the Oracle are asked more seldom. */
    private void ask(int mode) throws Exception {
        String name = NAMES[4 + below(NAMES.length - 4)];
        if ((name.equals("built") || name.equals("strangers")) && chance(70)) {
            return;
        }
        if (mode == 1 && chance(30)) {
            name = new String[] {"soonest", "way", "errand", "open"}[below(4)];
        } else if (mode == 2 && chance(40)) {
            name = new String[] {"walker", "step", "comes", "round", "questions", "had", "misprint"}[below(7)];
        } else if (mode == 3 && chance(30)) {
            name = new String[] {"errand", "ways", "ways", "sight", "weekdays"}[below(5)];
        }
        int[] args = argumentsOf(name);
        if (chance(4) && args.length > 0) {
            args[below(args.length)] = WILD[below(WILD.length)];
        }
        if ((name.equals("errand") || name.equals("sight") || name.equals("came")) && chance(3)) {
            args[0] = -1;
        }
        call(name, args);
        if (name.equals("step")) {
            for (int i = 0; i < 8; i++) {
                call("about", args[0], i);
            }
        }
    }

    private int hour() {
        return chance(80) ? below(1000) : chance(95) ? below(100000) : 99990 + below(12);
    }

    private int corner() {
        return below(corners);
    }

    private int[] argumentsOf(String name) {
        return switch (name) {
            case "street" -> new int[] {below(13), below(10)};
            case "open" -> new int[] {below(12), corner(), hour()};
            case "print", "wrong" -> new int[] {below(8)};
            case "misprint" -> new int[] {below(4), below(12), below(4)};
            case "shown" -> new int[] {below(4), below(12)};
            case "by" -> new int[] {below(4), corner(), corner(), below(2)};
            case "walker" -> new int[] {corner(), corner(), below(3), below(4) - 1, hour()};
            case "about" -> new int[] {below(4), below(8)};
            case "step" -> new int[] {below(4), chance(80) ? 1 + below(6) : 1 + below(200)};
            case "soonest" -> new int[] {corner(), corner(), hour()};
            case "way" -> new int[] {corner(), corner(), hour(), chance(70) ? below(5) : below(200)};
            case "comes" -> new int[] {below(4), chance(70) ? below(40) : below(401), below(3)};
            case "round", "weekdays" -> name.equals("round") ? new int[] {below(4), below(2)} : new int[] {below(2)};
            case "questions" -> new int[] {below(4), below(121)};
            case "cheap" -> new int[] {below(12)};
            case "errand" -> new int[] {corner(), corner()};
            case "ways" -> new int[] {below(7), below(2)};
            case "sight" -> new int[] {below(12), below(4)};
            case "came" -> new int[] {corner()};
            case "had" -> new int[] {below(4)};
            case "built" -> new int[] {1 + below(9), hour(), below(3)};
            case "seed" -> new int[] {random.nextInt() >>> below(31)};
            case "strangers" -> new int[] {below(4) - 1, 1 + below(30), 1 + below(200), below(2)};
            case "count" -> new int[] {below(13)};
            case "image", "back" -> new int[] {chance(5) ? 4 : below(2)};
            default -> throw new AssertionError(name);
        };
    }
}
