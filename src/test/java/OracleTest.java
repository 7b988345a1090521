import java.lang.reflect.InvocationTargetException;
import java.lang.reflect.Method;
import java.util.ArrayList;
import java.util.Arrays;
import java.util.Comparator;
import java.util.List;
import java.util.Random;

/** Runs of drawn calls, each answered by FogKeys and by the Oracle; the draws are the same each time. */
public final class OracleTest {
    private static final int[] EXTREMES = {Integer.MIN_VALUE, Integer.MAX_VALUE, -1, 99, 1 << 30, -1000, 64, 9999, 10000};
    private static final List<String> HEAVY = List.of("turn", "turnSet", "plan", "planSet", "mean", "thickest");
    private static final String[] NAMES = {"sea", "old", "ann", "bob", "cid", "dot", "eel", "fox", "gnu", "hen", "ibis",
        "jay", "kit", "lark", "mole", "newt", "owl", "puma", "quail", "rat", "seal", "toad", "abcdefgh", "abcdefghi"};

    private final Random random;
    private final FogKeys real = new FogKeys();
    private final Oracle oracle = new Oracle();
    private final List<String> calls = new ArrayList<>();
    private int names;

    private OracleTest(long seed) {
        random = new Random(seed);
    }

    public static void main(String[] args) throws Exception {
        int runs = args.length > 0 ? Integer.parseInt(args[0]) : 1500;
        int from = args.length > 1 ? Integer.parseInt(args[1]) : 0;
        for (int run = from; run < from + runs; run++) {
            OracleTest test = new OracleTest(run);
            String wrong = test.run();
            if (wrong != null) {
                System.out.println("run " + run + ": " + wrong);
                for (String call : test.calls) {
                    System.out.println("  " + call);
                }
                System.exit(1);
            }
        }
        System.out.println(runs + " runs answered as the oracle does");
    }

    private int draw(int n) {
        return random.nextInt(n);
    }

    /** A PORT full of drawn fog, and all its WATCHES, WAYS and SAILS from some boards on. */
    private String runOnGrid() throws Exception {
        int wide = 3 + draw(4);
        int deep = 3 + draw(3);
        String wrong = giveText("port", "port " + wide + " by " + deep + ";ship a at 0 0 to 1 1;ship b at 1 1 to 2 2 dark;thins "
            + draw(3) + ";foggy " + (2 + draw(20)) + ";wind " + draw(5) + ";gate g at 1 1 lets " + (1 + draw(40)) + ";");
        int clear = 1 + draw(4);
        for (int i = 0; i < wide * deep && wrong == null; i++) {
            if (draw(5) >= clear) {
                wrong = call("breathe", i % wide, i / wide, draw(2), 1 + draw(60));
            }
        }
        for (int i = 0; i < 40 && wrong == null; i++) {
            int[] at = {draw(wide), draw(deep), draw(wide), draw(deep)};
            wrong = call("watch", at[0], at[1], at[2], at[3]);
            wrong = wrong == null ? call("way", at[0], at[1], at[2], at[3], draw(3)) : wrong;
            wrong = wrong == null ? call("tow", draw(2), at[0], at[1]) : wrong;
            wrong = wrong == null ? call("sail", draw(2)) : wrong;
        }
        return wrong;
    }

    private String run() throws Exception {
        if (draw(4) == 0) {
            return runOnGrid();
        }
        Method[] methods = FogKeys.class.getDeclaredMethods();
        List<Method> open = new ArrayList<>();
        for (Method m : methods) {
            if (java.lang.reflect.Modifier.isPublic(m.getModifiers())) {
                open.add(m);
            }
        }
        open.sort(Comparator.comparing(Method::getName));
        String wrong = null;
        if (draw(20) > 0) {
            wrong = giveText("port", portText());
        }
        for (int i = 0; i < 4 && wrong == null && draw(2) == 0; i++) {
            wrong = giveTries();
        }
        boolean isLong = draw(25) == 0;
        if (isLong && wrong == null) {
            wrong = giveText("nights", "loop 99; hour 24; end; loop 99; hour 24; when foggy 0 0; storm; end; end;");
        }
        for (int i = 0; i < 150 && wrong == null; i++) {
            if (isLong && draw(6) == 0) {
                wrong = call("live", draw(10000));
            }
            if (wrong != null) {
                break;
            }
            Method m = open.get(draw(open.size()));
            String name = m.getName();
            if (name.equals("port") || name.equals("nights")) {
                wrong = name.equals("port") && draw(3) > 0 || isLong ? null : giveText(name);
            } else if (name.equals("write") && draw(2) == 0) {
                wrong = giveTries();
            } else if (name.equals("feed") ? draw(12) == 0 : !HEAVY.contains(name) || many(2) < 5 || draw(15) == 0) {
                wrong = call(m, argumentsFor(m));
            }
        }
        return wrong;
    }

    private String call(String name, Object... arguments) throws Exception {
        for (Method m : FogKeys.class.getDeclaredMethods()) {
            if (m.getName().equals(name) && m.getParameterCount() == arguments.length) {
                return call(m, arguments);
            }
        }
        throw new IllegalStateException(name);
    }

    private String call(Method m, Object[] arguments) throws Exception {
        Object got;
        String told = m.getName() + Arrays.toString(arguments);
        try {
            got = m.invoke(real, arguments);
        } catch (InvocationTargetException e) {
            calls.add(told);
            return told + " threw " + e.getCause();
        }
        Object want = Oracle.class.getMethod(m.getName(), m.getParameterTypes()).invoke(oracle, arguments);
        calls.add(told + " => " + got + " status " + real.status());
        if (!got.equals(want)) {
            return told + " answered " + got + ", due is " + want;
        }
        if (real.status() != oracle.status()) {
            return told + " has status " + real.status() + ", due is " + oracle.status();
        }
        if (real.top() != oracle.top() || real.bottom() != oracle.bottom()) {
            return told + " tells " + real.top() + "/" + real.bottom() + ", due is " + oracle.top() + "/" + oracle.bottom();
        }
        if (real.fault(0) != oracle.fault(0) || real.fault(1) != oracle.fault(1)) {
            return told + " has fault " + real.fault(0) + " at " + real.fault(1) + ", due is " + oracle.fault(0) + " at "
                + oracle.fault(1);
        }
        return null;
    }

    private Object[] argumentsFor(Method m) {
        Object[] arguments = new Object[m.getParameterCount()];
        for (int i = 0; i < arguments.length; i++) {
            Class<?> type = m.getParameterTypes()[i];
            if (type == boolean.class) {
                arguments[i] = random.nextBoolean();
            } else if (type == long.class) {
                arguments[i] = draw(4) == 0 ? random.nextLong() : (long) draw(300) - 150;
            } else {
                arguments[i] = draw(25) == 0 ? EXTREMES[draw(EXTREMES.length)] : argument(m.getName(), i);
            }
        }
        return arguments;
    }

    /** Kinds of arguments: c, r a board, g gate or key, h holder, H a set of these, d trade, s ship, T tray. */
    private static String kindsOf(String name) {
        switch (name) {
            case "tray": return "TSL";
            case "write": case "read": return "TP";
            case "pour": return "TPTPM";
            case "feed": return "xxxxx";
            case "fault": return "2";
            case "many": return "E";
            case "gate": return "g5";
            case "votes": return "h";
            case "trade": return "d6";
            case "ship": return "s5";
            case "fog": return "cr2";
            case "copyFog": return "T";
            case "hour": case "foggyIn": case "thickest": return "U";
            case "open": case "fewest": case "fewestSet": case "veto": case "idle": return "g";
            case "openBy": case "together": return "gH";
            case "wind": return "4";
            case "breathe": return "cr2F";
            case "tow": return "scr";
            case "later": return "crU";
            case "turn": return "V";
            case "turnSet": return "V2";
            case "way": return "crcr3";
            case "sail": return "s";
            case "watch": return "crcr";
            case "power": return "gh";
            case "reach": return "H";
            case "fits": case "next": return "TN";
            case "known": return "gTN";
            case "chance": return "ggTN";
            case "live": return "D";
            case "lived": return "5";
            case "mean": return "D6";
            default: return "cr";
        }
    }

    private int argument(String name, int i) {
        char kind = kindsOf(name).charAt(i);
        switch (kind) {
            case 'c': return draw(many(0) + (draw(8) == 0 ? 2 : 0) + 1) % Math.max(1, many(0) + draw(2));
            case 'r': return draw(many(1) + (draw(8) == 0 ? 2 : 0) + 1) % Math.max(1, many(1) + draw(2));
            case 'g': return near(many(2));
            case 'h': return near(many(3));
            case 'd': return near(many(4));
            case 's': return near(many(5));
            case 'H': return near(1 << many(3));
            case 'T': return near(4);
            case 'S': return near(4);
            case 'L': return draw(64) - 1;
            case 'P': return draw(30) - draw(2);
            case 'M': return draw(12) - draw(2);
            case 'N': return draw(9) - draw(2);
            case 'E': return near(14);
            case 'U': return draw(draw(8) == 0 ? 51 : 8);
            case 'V': return draw(draw(8) == 0 ? 26 : 7);
            case 'F': return draw(draw(2) == 0 ? 1001 : 40);
            case 'D': return draw(draw(2) == 0 ? 10001 : 40);
            case 'x': return random.nextInt();
            default: return near(kind - '0');
        }
    }

    /** Asks both, so that both have the same status. */
    private int many(int what) {
        oracle.many(what);
        return real.many(what);
    }

    private int near(int n) {
        return draw(8) == 0 ? n + draw(3) - 1 : draw(Math.max(1, n));
    }

    private String giveTries() throws Exception {
        int tray = draw(4);
        int many = draw(8);
        String wrong = call("tray", tray, 1 + draw(3), many);
        for (int i = 0; i < many && wrong == null; i++) {
            int gates = Math.max(1, many(2));
            int odd = draw(40) == 0 ? draw(700) : 100 * draw(gates) + 10 * draw(gates) + (draw(4) == 0 ? 1 : 0);
            wrong = call("write", tray, i, (long) odd);
        }
        return wrong;
    }

    private String giveText(String name) throws Exception {
        String text = name.equals("port") ? portText() : nightsText();
        return giveText(name, draw(3) == 0 ? spoil(text) : text);
    }

    private String giveText(String name, String text) throws Exception {
        int n = Math.min(text.length(), draw(15) == 0 ? draw(text.length() + 1) : 900);
        String wrong = null;
        for (int i = 0; i < n && wrong == null; i += 20) {
            Object[] five = new Object[5];
            for (int k = 0; k < 5; k++) {
                int v = 0;
                for (int b = 0; b < 4; b++) {
                    int at = i + k * 4 + b;
                    v = v << 8 | (at < text.length() ? text.charAt(at) & 255 : 32);
                }
                five[k] = v;
            }
            wrong = call("feed", five);
        }
        return wrong == null ? call(name, n) : wrong;
    }

    private String spoil(String text) {
        StringBuilder b = new StringBuilder(text);
        int at = draw(b.length() + 1);
        String signs = "az09;<>= \n!A\u00e9\tq5";
        switch (draw(4)) {
            case 0:
                b.insert(at, signs.charAt(draw(signs.length())));
                break;
            case 1:
                b.setLength(at);
                break;
            case 2:
                if (at < b.length()) {
                    b.deleteCharAt(at);
                }
                break;
            default:
                String[] tokens = text.split(" ");
                String[] words = "port by gate at lets answers open quota holder votes trade wind foggy end loop 0 7 25 100 1000 abcdefghi ; <"
                    .split(" ");
                tokens[draw(tokens.length)] = words[draw(words.length)];
                return String.join(" ", tokens);
        }
        return b.toString();
    }

    private String name() {
        return draw(60) == 0 ? NAMES[draw(NAMES.length)] : NAMES[names++ % 23];
    }

    private String portText() {
        StringBuilder b = new StringBuilder();
        names = 0;
        int wide = 1 + draw(6);
        int deep = 1 + draw(5);
        b.append("port ").append(wide).append(" by ").append(deep).append(" ;");
        for (int i = draw(draw(15) == 0 ? 8 : 4); i > 0; i--) {
            b.append(" gate ").append(name()).append(" at ").append(draw(wide)).append(' ').append(draw(deep)).append(" lets ")
                .append(1 + draw(40)).append(draw(3) == 0 ? " answers" : "").append(draw(2) == 0 ? " open" : "");
            b.append(draw(2) == 0 ? " quota " + (1 + draw(draw(3) == 0 ? 99 : 20)) : "").append(" ;");
        }
        for (int i = draw(draw(10) == 0 ? 8 : 5); i > 0; i--) {
            b.append("\nholder ").append(name()).append(" votes ").append(1 + draw(draw(3) == 0 ? 20 : 5)).append(";");
        }
        for (int i = draw(draw(10) == 0 ? 8 : 5); i > 0; i--) {
            int from = 1 + draw(draw(3) == 0 ? 24 : 5);
            b.append(" trade ").append(name()).append(" at ").append(draw(wide)).append(' ').append(draw(deep)).append(" from ")
                .append(from).append(" to ").append(Math.min(24, from + draw(4))).append(" pays ").append(1 + draw(9))
                .append(draw(2) == 0 ? " clear" : "").append(" ;");
        }
        for (int i = draw(draw(10) == 0 ? 6 : 4); i > 0; i--) {
            b.append(" ship ").append(name()).append(" at ").append(draw(wide)).append(' ').append(draw(deep)).append(" to ")
                .append(draw(wide)).append(' ').append(draw(deep)).append(draw(2) == 0 ? " dark" : "").append(" ;");
        }
        b.append(draw(2) == 0 ? " wind " + draw(5) + " ;" : "");
        b.append(draw(2) == 0 ? " thins " + draw(4) + " ;" : "");
        b.append(draw(3) > 0 ? " foggy " + (1 + draw(draw(5) == 0 ? 99 : 12)) + " ;" : "");
        return b.toString();
    }

    private String nightsText() {
        StringBuilder b = new StringBuilder();
        addSteps(b, 1 + draw(6), draw(8) == 0 ? 4 : 3);
        return b.toString();
    }

    private void addSteps(StringBuilder b, int many, int depth) {
        for (int i = 0; i < many && b.length() < 280; i++) {
            int sort = draw(depth > 0 ? 9 : 6);
            switch (sort) {
                case 0:
                case 1:
                    b.append("hour ").append(1 + draw(draw(4) == 0 ? 24 : 3)).append("; ");
                    break;
                case 2:
                    b.append(draw(2) == 0 ? "open " : "shut ").append(NAMES[draw(2)]).append(" ;");
                    break;
                case 3:
                    b.append("wind ").append(draw(5)).append(";");
                    break;
                case 4:
                    b.append("storm;");
                    break;
                case 5:
                    b.append(draw(6) == 0 ? "stop; " : "hour 1;");
                    break;
                case 6:
                    b.append("loop ").append(1 + draw(draw(4) == 0 ? 99 : 4)).append(";");
                    addSteps(b, draw(4), depth - 1);
                    b.append("end;");
                    break;
                default:
                    b.append("when ").append(test()).append(";");
                    addSteps(b, draw(4), depth - 1);
                    b.append("end;\n");
                    break;
            }
        }
    }

    private String test() {
        switch (draw(3)) {
            case 0:
                return "foggy " + draw(3) + " " + draw(2);
            case 1:
                return "open " + NAMES[draw(2)];
            default:
                return "lets " + draw(3) + " " + draw(2) + " " + "<>=".charAt(draw(3)) + " " + draw(draw(3) == 0 ? 3 : 30);
        }
    }
}
