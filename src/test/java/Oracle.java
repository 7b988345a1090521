import java.util.ArrayList;
import java.util.Arrays;
import java.util.HashMap;
import java.util.HashSet;
import java.util.List;
import java.util.Map;
import java.util.Set;

/** The document once more, by brute force and with the whole Java library: what FogKeys is held against. */
final class Oracle {
    private static final Set<String> RESERVED = new HashSet<>(Arrays.asList(("port by gate at lets answers open quota holder"
            + " votes trade from to pays clear ship dark wind thins foggy hour shut storm when loop end stop").split(" ")));

    private static final class Fault extends RuntimeException {
        private static final long serialVersionUID = 1L;
        final int kind;
        final int place;

        Fault(int kind, int place) {
            this.kind = kind;
            this.place = place;
        }
    }

    private static final class Gate {
        String name;
        int column;
        int row;
        int lets;
        int answers;
        int quota = 1;
    }

    private record Trade(int column, int row, int from, int to, int pays, int clear) { }

    private record Ship(int column, int row, int toColumn, int toRow, int dark) { }

    private record Step(String word, String test, int[] numbers, char sign, List<Step> inner) { }

    private static final class World implements Cloneable {
        int wide;
        int deep;
        int wind;
        int thins = 1;
        int foggy = 10;
        int hour;
        List<Gate> gates = new ArrayList<>();
        List<Integer> votes = new ArrayList<>();
        List<Trade> trades = new ArrayList<>();
        List<Ship> ships = new ArrayList<>();
        Set<Integer> open = new HashSet<>();
        Map<List<Integer>, int[]> fog = new HashMap<>();
        List<Step> nights;
        int steps;

        World copy() {
            World w = new World();
            w.wide = wide;
            w.deep = deep;
            w.wind = wind;
            w.thins = thins;
            w.foggy = foggy;
            w.hour = hour;
            w.gates = gates;
            w.votes = votes;
            w.trades = trades;
            w.ships = new ArrayList<>(ships);
            w.open = new HashSet<>(open);
            fog.forEach((k, v) -> w.fog.put(k, v.clone()));
            w.nights = nights;
            w.steps = steps;
            return w;
        }

        int sum(int c, int r) {
            int[] f = fog.get(List.of(c, r));
            return f[0] + f[1];
        }

        boolean isFoggy(int c, int r) {
            return sum(c, r) >= foggy;
        }

        int foggyCount() {
            int n = 0;
            for (List<Integer> b : fog.keySet()) {
                n += isFoggy(b.get(0), b.get(1)) ? 1 : 0;
            }
            return n;
        }

        List<List<Integer>> beside(int c, int r) {
            List<List<Integer>> all = new ArrayList<>();
            for (List<Integer> b : List.of(List.of(c + 1, r), List.of(c, r + 1), List.of(c - 1, r), List.of(c, r - 1))) {
                if (fog.containsKey(b)) {
                    all.add(b);
                }
            }
            return all;
        }

        void pass() {
            hour++;
            for (int g : open) {
                Gate gate = gates.get(g);
                int[] f = fog.get(List.of(gate.column, gate.row));
                f[gate.answers] = Math.min(999, f[gate.answers] + gate.lets);
            }
            Map<List<Integer>, int[]> then = new HashMap<>();
            fog.forEach((k, v) -> then.put(k, v.clone()));
            for (List<Integer> b : fog.keySet()) {
                for (int kind = 0; kind < 2; kind++) {
                    int was = fog.get(b)[kind];
                    if (wind == 0) {
                        for (List<Integer> o : beside(b.get(0), b.get(1))) {
                            then.get(b)[kind] -= was / 8;
                            then.get(o)[kind] += was / 8;
                        }
                    } else {
                        int dc = wind == 1 ? 1 : wind == 3 ? -1 : 0;
                        int dr = wind == 2 ? 1 : wind == 4 ? -1 : 0;
                        then.get(b)[kind] -= was / 4;
                        int[] o = then.get(List.of(b.get(0) + dc, b.get(1) + dr));
                        if (o != null) {
                            o[kind] += was / 4;
                        }
                    }
                }
            }
            for (int[] f : then.values()) {
                f[0] = Math.min(999, f[0]);
                f[1] = Math.min(999, f[1]);
                int met = Math.min(f[0], f[1]);
                f[0] = Math.max(0, f[0] - met - thins);
                f[1] = Math.max(0, f[1] - met - thins);
            }
            fog = then;
        }

        World in(int hours) {
            World w = copy();
            for (int i = 0; i < hours; i++) {
                w.pass();
            }
            return w;
        }
    }

    private int status;
    private long top;
    private long bottom = 1;
    private final long[][] trays = new long[4][];
    private final int[] sorts = new int[4];
    private StringBuilder tape = new StringBuilder();
    private World w = new World();
    private final List<World> marks = new ArrayList<>();
    private int faultKind = -1;
    private int faultPlace = -1;
    private int[] lived;

    public int status() {
        return status;
    }

    public long top() {
        return top;
    }

    public long bottom() {
        return bottom;
    }

    private int no(int code) {
        status = code;
        return -1;
    }

    private boolean not(int code) {
        status = code;
        return false;
    }

    private int say(int v) {
        status = 0;
        return v;
    }

    private boolean yes() {
        status = 0;
        return true;
    }

    private static boolean in(int v, int low, int high) {
        return v >= low && v <= high;
    }

    // ---- TRAYS

    public boolean tray(int tray, int sort, int many) {
        if (!in(tray, 0, 3) || !in(sort, 0, 3)) {
            return not(1);
        }
        if (many > 60) {
            return not(5);
        }
        if (many < 0) {
            return not(6);
        }
        trays[tray] = new long[many];
        sorts[tray] = sort;
        return yes();
    }

    private long cut(int tray, long v) {
        int bits = 8 << sorts[tray];
        return v << (64 - bits) >> (64 - bits);
    }

    private int place(int tray, int place) {
        if (!in(tray, 0, 3)) {
            return 1;
        }
        if (trays[tray] == null) {
            return 3;
        }
        return in(place, 0, trays[tray].length - 1) ? 0 : 4;
    }

    public boolean write(int tray, int place, long v) {
        int code = place(tray, place);
        if (code != 0) {
            return not(code);
        }
        trays[tray][place] = cut(tray, v);
        return yes();
    }

    public long read(int tray, int place) {
        int code = place(tray, place);
        if (code != 0) {
            return no(code);
        }
        status = 0;
        return trays[tray][place];
    }

    public boolean pour(int tray, int i, int to, int j, int many) {
        if (!in(tray, 0, 3) || !in(to, 0, 3)) {
            return not(1);
        }
        if (trays[tray] == null || trays[to] == null) {
            return not(3);
        }
        if (sorts[tray] != sorts[to]) {
            return not(11);
        }
        if (many < 0) {
            return not(6);
        }
        if (i < 0 || j < 0 || (long) i + many > trays[tray].length || (long) j + many > trays[to].length) {
            return not(4);
        }
        long[] taken = Arrays.copyOfRange(trays[tray], i, i + many);
        for (int k = 0; k < many; k++) {
            trays[to][j + k] = taken[k];
        }
        return yes();
    }

    // ---- texts

    public int feed(int a, int b, int c, int d, int e) {
        if (tape.length() + 20 > 900) {
            return -1;
        }
        for (int v : new int[] {a, b, c, d, e}) {
            for (int shift = 24; shift >= 0; shift -= 8) {
                tape.append((char) (v >>> shift & 255));
            }
        }
        return tape.length();
    }

    private record Token(int place, String text, char kind) { }

    private final List<Token> tokens = new ArrayList<>();
    private int at;

    private void cutTokens(String text) {
        tokens.clear();
        at = 0;
        int i = 0;
        while (i < text.length()) {
            char c = text.charAt(i);
            int from = i;
            if (c == ' ' || c == '\n') {
                i++;
            } else if (c >= 'a' && c <= 'z') {
                while (i < text.length() && text.charAt(i) >= 'a' && text.charAt(i) <= 'z') {
                    i++;
                }
                tokens.add(new Token(from, text.substring(from, i), 'w'));
            } else if (c >= '0' && c <= '9') {
                while (i < text.length() && text.charAt(i) >= '0' && text.charAt(i) <= '9') {
                    i++;
                }
                tokens.add(new Token(from, text.substring(from, i), i - from > 4 ? '!' : 'n'));
            } else {
                i++;
                tokens.add(new Token(from, String.valueOf(c), ";<>=".indexOf(c) >= 0 ? 's' : '!'));
            }
        }
        tokens.add(new Token(text.length(), "", 'e'));
    }

    private Token token() {
        return tokens.get(at);
    }

    private Fault wrong(int kind) {
        return new Fault(token().kind() == '!' ? 1 : kind, token().place());
    }

    private boolean maybe(String text) {
        if (token().text().equals(text)) {
            at++;
            return true;
        }
        return false;
    }

    private void must(String text) {
        if (!maybe(text)) {
            throw wrong(2);
        }
    }

    private int number(int low, int high) {
        if (token().kind() != 'n') {
            throw wrong(2);
        }
        int v = Integer.parseInt(token().text());
        if (!in(v, low, high)) {
            throw wrong(4);
        }
        at++;
        return v;
    }

    private String name() {
        if (token().kind() != 'w' || token().text().length() > 8 || RESERVED.contains(token().text())) {
            throw wrong(2);
        }
        return token().text();
    }

    private String newName(Set<String> names) {
        String name = name();
        if (!names.add(name)) {
            throw wrong(3);
        }
        at++;
        return name;
    }

    private World parsePort() {
        World p = new World();
        Set<String> names = new HashSet<>();
        Set<String> told = new HashSet<>();
        while (token().kind() != 'e') {
            String word = token().text();
            boolean once = Set.of("port", "wind", "thins", "foggy").contains(word);
            boolean thing = Set.of("gate", "holder", "trade", "ship").contains(word);
            if (!once && !thing || !told.contains("port") && !word.equals("port")) {
                throw wrong(2);
            }
            if (once && !told.add(word)) {
                throw wrong(5);
            }
            if (word.equals("gate") && p.gates.size() == 6 || word.equals("holder") && p.votes.size() == 6
                    || word.equals("trade") && p.trades.size() == 6 || word.equals("ship") && p.ships.size() == 4) {
                throw wrong(6);
            }
            at++;
            switch (word) {
                case "port" -> {
                    p.wide = number(1, 6);
                    must("by");
                    p.deep = number(1, 5);
                }
                case "wind" -> p.wind = number(0, 4);
                case "thins" -> p.thins = number(0, 9);
                case "foggy" -> p.foggy = number(1, 99);
                case "gate" -> parseGate(p, names);
                case "holder" -> {
                    newName(names);
                    must("votes");
                    p.votes.add(number(1, 20));
                }
                case "trade" -> parseTrade(p, names);
                default -> {
                    newName(names);
                    must("at");
                    int c = number(0, p.wide - 1);
                    int r = number(0, p.deep - 1);
                    must("to");
                    int tc = number(0, p.wide - 1);
                    int tr = number(0, p.deep - 1);
                    p.ships.add(new Ship(c, r, tc, tr, maybe("dark") ? 1 : 0));
                }
            }
            must(";");
        }
        for (int c = 0; c < p.wide; c++) {
            for (int r = 0; r < p.deep; r++) {
                p.fog.put(List.of(c, r), new int[2]);
            }
        }
        return p;
    }

    private void parseGate(World p, Set<String> names) {
        Gate g = new Gate();
        g.name = newName(names);
        must("at");
        g.column = number(0, p.wide - 1);
        g.row = number(0, p.deep - 1);
        must("lets");
        g.lets = number(1, 40);
        g.answers = maybe("answers") ? 1 : 0;
        if (maybe("open")) {
            p.open.add(p.gates.size());
        }
        if (maybe("quota")) {
            g.quota = number(1, 99);
        }
        p.gates.add(g);
    }

    private void parseTrade(World p, Set<String> names) {
        newName(names);
        must("at");
        int c = number(0, p.wide - 1);
        int r = number(0, p.deep - 1);
        must("from");
        int from = number(1, 24);
        must("to");
        int to = number(from, 24);
        must("pays");
        int pays = number(1, 99);
        p.trades.add(new Trade(c, r, from, to, pays, maybe("clear") ? 1 : 0));
    }

    public int port(int n) {
        if (n < 0 || n > tape.length()) {
            return no(5);
        }
        cutTokens(tape.substring(0, n));
        tape = new StringBuilder();
        try {
            w = parsePort();
        } catch (Fault f) {
            faultKind = f.kind;
            faultPlace = f.place;
            return no(10);
        }
        faultKind = 0;
        faultPlace = -1;
        return say(w.gates.size());
    }

    private int stepCount;

    private int gateByName() {
        String name = name();
        for (int i = 0; i < w.gates.size(); i++) {
            if (w.gates.get(i).name.equals(name)) {
                at++;
                return i;
            }
        }
        throw wrong(3);
    }

    private List<Step> parseSteps(int depth) {
        List<Step> steps = new ArrayList<>();
        while (true) {
            String word = token().text();
            if (depth > 0 && word.equals("end") || depth == 0 && token().kind() == 'e') {
                return steps;
            }
            if (!Set.of("hour", "open", "shut", "wind", "storm", "when", "loop", "stop").contains(word)) {
                throw wrong(2);
            }
            if (stepCount == 30) {
                throw wrong(6);
            }
            boolean outer = word.equals("when") || word.equals("loop");
            if (outer && depth == 3) {
                throw wrong(7);
            }
            stepCount++;
            at++;
            String test = "";
            int[] n = new int[4];
            char sign = ' ';
            switch (word) {
                case "hour" -> n[0] = number(1, 24);
                case "wind" -> n[0] = number(0, 4);
                case "loop" -> n[0] = number(1, 99);
                case "open", "shut" -> n[0] = gateByName();
                case "when" -> {
                    test = token().text();
                    if (maybe("open")) {
                        n[0] = gateByName();
                    } else {
                        if (!maybe("foggy")) {
                            must("lets");
                        }
                        n[0] = number(0, w.wide - 1);
                        n[1] = number(0, w.deep - 1);
                        if (test.equals("lets")) {
                            if (token().kind() != 's' || token().text().equals(";")) {
                                throw wrong(2);
                            }
                            sign = token().text().charAt(0);
                            at++;
                            n[2] = number(0, 999);
                        }
                    }
                }
                default -> { }
            }
            must(";");
            List<Step> inner = null;
            if (outer) {
                inner = parseSteps(depth + 1);
                must("end");
                must(";");
            }
            steps.add(new Step(word, test, n, sign, inner));
        }
    }

    public int nights(int n) {
        if (n < 0 || n > tape.length() || n > 300) {
            return no(5);
        }
        cutTokens(tape.substring(0, n));
        tape = new StringBuilder();
        stepCount = 0;
        try {
            w.nights = parseSteps(0);
        } catch (Fault f) {
            faultKind = f.kind;
            faultPlace = f.place;
            return no(10);
        }
        faultKind = 0;
        faultPlace = -1;
        w.steps = stepCount;
        return say(stepCount);
    }

    public int fault(int what) {
        return what == 0 ? faultKind : what == 1 ? faultPlace : -1;
    }

    private int setOf(Set<Integer> members) {
        return members.stream().mapToInt(i -> 1 << i).sum();
    }

    private int allOf(int kind) {
        return w.fog.values().stream().mapToInt(f -> f[kind]).sum();
    }

    public int many(int what) {
        if (!in(what, 0, 13)) {
            return no(5);
        }
        int[] facts = {w.wide, w.deep, w.gates.size(), w.votes.size(), w.trades.size(), w.ships.size(), w.wind, w.thins,
            w.foggy, w.hour, setOf(w.open), allOf(0), allOf(1), w.foggyCount()};
        return say(facts[what]);
    }

    private boolean isGate(int g) {
        return in(g, 0, w.gates.size() - 1);
    }

    private boolean isBoard(int c, int r) {
        return in(c, 0, w.wide - 1) && in(r, 0, w.deep - 1);
    }

    private int fact(int what, int... facts) {
        return in(what, 0, facts.length - 1) ? say(facts[what]) : no(5);
    }

    public int gate(int gate, int what) {
        if (!isGate(gate)) {
            return no(2);
        }
        Gate g = w.gates.get(gate);
        return fact(what, g.column, g.row, g.lets, g.answers, g.quota);
    }

    public int votes(int holder) {
        return in(holder, 0, w.votes.size() - 1) ? say(w.votes.get(holder)) : no(2);
    }

    public int trade(int trade, int what) {
        if (!in(trade, 0, w.trades.size() - 1)) {
            return no(2);
        }
        Trade t = w.trades.get(trade);
        return fact(what, t.column(), t.row(), t.from(), t.to(), t.pays(), t.clear());
    }

    public int ship(int ship, int what) {
        if (!in(ship, 0, w.ships.size() - 1)) {
            return no(2);
        }
        Ship s = w.ships.get(ship);
        return fact(what, s.column(), s.row(), s.toColumn(), s.toRow(), s.dark());
    }

    public int fog(int column, int row, int kind) {
        if (!isBoard(column, row)) {
            return no(2);
        }
        return in(kind, 0, 1) ? say(w.fog.get(List.of(column, row))[kind]) : no(5);
    }

    public int foggy(int column, int row) {
        return isBoard(column, row) ? say(w.isFoggy(column, row) ? 1 : 0) : no(2);
    }

    public int copyFog(int tray) {
        int boards = w.fog.size();
        int code = !in(tray, 0, 3) ? 1 : trays[tray] == null ? 3 : trays[tray].length < boards ? 4 : 0;
        if (code != 0) {
            return no(code);
        }
        int i = 0;
        for (int r = 0; r < w.deep; r++) {
            for (int c = 0; c < w.wide; c++) {
                trays[tray][i++] = cut(tray, w.sum(c, r));
            }
        }
        return say(boards);
    }

    // ---- what is done

    public int hour(int hours) {
        if (!in(hours, 1, 48)) {
            return no(5);
        }
        if (w.hour + hours > 9999) {
            return no(7);
        }
        w = w.in(hours);
        return say(w.hour);
    }

    public boolean open(int gate, boolean is) {
        if (!isGate(gate)) {
            return not(2);
        }
        boolean changed = is ? w.open.add(gate) : w.open.remove(gate);
        return changed ? yes() : not(9);
    }

    private boolean isSet(int holders) {
        return in(holders, 0, (1 << w.votes.size()) - 1);
    }

    private boolean can(int gate, int holders) {
        int sum = 0;
        for (int i = 0; i < w.votes.size(); i++) {
            sum += (holders & 1 << i) != 0 ? w.votes.get(i) : 0;
        }
        return sum >= w.gates.get(gate).quota;
    }

    public boolean openBy(int gate, int holders) {
        if (!isGate(gate)) {
            return not(2);
        }
        if (!isSet(holders)) {
            return not(5);
        }
        if (w.open.contains(gate) || !can(gate, holders)) {
            return not(9);
        }
        w.open.add(gate);
        return yes();
    }

    public boolean wind(int wind) {
        if (!in(wind, 0, 4)) {
            return not(5);
        }
        if (wind == w.wind) {
            return not(9);
        }
        w.wind = wind;
        return yes();
    }

    public int sweep(int column, int row) {
        if (!isBoard(column, row)) {
            return no(2);
        }
        int much = w.sum(column, row);
        w.fog.put(List.of(column, row), new int[2]);
        return say(much);
    }

    public int breathe(int column, int row, int kind, int much) {
        if (!isBoard(column, row)) {
            return no(2);
        }
        if (!in(kind, 0, 1) || !in(much, 1, 999)) {
            return no(5);
        }
        int[] f = w.fog.get(List.of(column, row));
        f[kind] = Math.min(999, f[kind] + much);
        return say(f[kind]);
    }

    public boolean tow(int ship, int column, int row) {
        if (!in(ship, 0, w.ships.size() - 1) || !isBoard(column, row)) {
            return not(2);
        }
        Ship s = w.ships.get(ship);
        if (s.column() == column && s.row() == row) {
            return not(9);
        }
        w.ships.set(ship, new Ship(column, row, s.toColumn(), s.toRow(), s.dark()));
        return yes();
    }

    // ---- what comes

    public int later(int column, int row, int hours) {
        if (!isBoard(column, row)) {
            return no(2);
        }
        return in(hours, 0, 48) ? say(w.in(hours).sum(column, row)) : no(5);
    }

    private int first(int column, int row, boolean foggy) {
        if (!isBoard(column, row)) {
            return no(2);
        }
        World then = w.copy();
        for (int h = 0; h <= 48; h++, then.pass()) {
            if (then.isFoggy(column, row) == foggy) {
                return say(h);
            }
        }
        return no(8);
    }

    public int lifts(int column, int row) {
        return first(column, row, false);
    }

    public int comes(int column, int row) {
        return first(column, row, true);
    }

    public int foggyIn(int hours) {
        return in(hours, 0, 48) ? say(w.in(hours).foggyCount()) : no(5);
    }

    public int thickest(int hours) {
        if (!in(hours, 1, 48)) {
            return no(5);
        }
        int best = 1;
        for (int h = 2; h <= hours; h++) {
            best = w.in(h).foggyCount() > w.in(best).foggyCount() ? h : best;
        }
        return say(best);
    }

    private Set<Integer> members(int set) {
        Set<Integer> all = new HashSet<>();
        for (int i = 0; i < 6; i++) {
            if ((set & 1 << i) != 0) {
                all.add(i);
            }
        }
        return all;
    }

    private int servedBy(World from, int first, int second, int turn) {
        World then = from.copy();
        int served = (1 << w.trades.size()) - 1;
        for (int h = 1; h <= 24; h++) {
            then.open = members(h <= turn ? first : second);
            then.pass();
            for (int i = 0; i < w.trades.size(); i++) {
                Trade t = w.trades.get(i);
                if (in(h, t.from(), t.to()) && then.isFoggy(t.column(), t.row()) == (t.clear() == 1)) {
                    served &= ~(1 << i);
                }
            }
        }
        return served;
    }

    private int pay(int set) {
        return members(set).stream().mapToInt(i -> w.trades.get(i).pays()).sum();
    }

    private int servedNow() {
        return servedBy(w, setOf(w.open), setOf(w.open), 24);
    }

    public int served() {
        return say(servedNow());
    }

    public int paid() {
        return say(pay(servedNow()));
    }

    // ---- plans

    private int[] bestPlan() {
        int[] best = {-1, 0};
        for (int set = 0; set < 1 << w.gates.size(); set++) {
            int pay = pay(servedBy(w, set, set, 24));
            boolean fewer = Integer.bitCount(set) < Integer.bitCount(best[1]);
            if (pay > best[0] || pay == best[0] && fewer) {
                best = new int[] {pay, set};
            }
        }
        return best;
    }

    public int plan() {
        return say(bestPlan()[0]);
    }

    public int planSet() {
        return say(bestPlan()[1]);
    }

    private int[] bestTurn(int hours) {
        int[] best = {-1, 0, 0};
        for (int first = 0; first < 1 << w.gates.size(); first++) {
            for (int second = 0; second < 1 << w.gates.size(); second++) {
                int pay = pay(servedBy(w, first, second, hours));
                if (pay > best[0]) {
                    best = new int[] {pay, first, second};
                }
            }
        }
        return best;
    }

    public int turn(int hours) {
        return in(hours, 1, 23) ? say(bestTurn(hours)[0]) : no(5);
    }

    public int turnSet(int hours, int what) {
        return in(hours, 1, 23) && in(what, 0, 1) ? say(bestTurn(hours)[1 + what]) : no(5);
    }

    public int way(int column, int row, int toColumn, int toRow, int road) {
        if (!isBoard(column, row) || !isBoard(toColumn, toRow)) {
            return no(2);
        }
        if (!in(road, 0, 2)) {
            return no(5);
        }
        // Boards by what they count so far, the least first.
        Map<List<Integer>, Integer> open = new HashMap<>();
        Map<List<Integer>, Integer> done = new HashMap<>();
        open.put(List.of(column, row), 0);
        while (!open.isEmpty()) {
            List<Integer> b = open.entrySet().stream().min(Map.Entry.comparingByValue()).get().getKey();
            int count = open.remove(b);
            done.put(b, count);
            for (List<Integer> o : w.beside(b.get(0), b.get(1))) {
                boolean foggy = w.isFoggy(o.get(0), o.get(1));
                if (!done.containsKey(o) && (road == 2 || foggy == (road == 1))) {
                    open.merge(o, count + (road == 2 && foggy ? 3 : 1), Math::min);
                }
            }
        }
        Integer count = done.get(List.of(toColumn, toRow));
        return count == null ? no(8) : say(count);
    }

    public int sail(int ship) {
        if (!in(ship, 0, w.ships.size() - 1)) {
            return no(2);
        }
        Ship s = w.ships.get(ship);
        Set<List<Integer>> reached = new HashSet<>();
        reached.add(List.of(s.column(), s.row()));
        World then = w.copy();
        for (int h = 0; h <= 48; h++) {
            if (reached.contains(List.of(s.toColumn(), s.toRow()))) {
                return say(h);
            }
            then.pass();
            Set<List<Integer>> all = new HashSet<>(reached);
            for (List<Integer> b : reached) {
                all.addAll(then.beside(b.get(0), b.get(1)));
            }
            World now = then;
            all.removeIf(b -> now.isFoggy(b.get(0), b.get(1)) != (s.dark() == 1));
            reached = all;
        }
        return no(8);
    }

    private boolean joined(List<Integer> from, List<Integer> to, Set<List<Integer>> usable) {
        Set<List<Integer>> seen = new HashSet<>();
        List<List<Integer>> row = new ArrayList<>();
        row.add(from);
        for (int i = 0; i < row.size(); i++) {
            for (List<Integer> o : w.beside(row.get(i).get(0), row.get(i).get(1))) {
                if (o.equals(to)) {
                    return true;
                }
                if (usable.contains(o) && seen.add(o)) {
                    row.add(o);
                }
            }
        }
        return false;
    }

    private boolean closes(List<Integer> from, List<Integer> to, List<List<Integer>> fogs, Set<List<Integer>> left, int begin, int many) {
        if (many == 0) {
            return !joined(from, to, left);
        }
        for (int i = begin; i < fogs.size(); i++) {
            left.remove(fogs.get(i));
            if (closes(from, to, fogs, left, i + 1, many - 1)) {
                return true;
            }
            left.add(fogs.get(i));
        }
        return false;
    }

    public int watch(int column, int row, int toColumn, int toRow) {
        if (!isBoard(column, row) || !isBoard(toColumn, toRow)) {
            return no(2);
        }
        List<Integer> from = List.of(column, row);
        List<Integer> to = List.of(toColumn, toRow);
        if (from.equals(to) || w.beside(column, row).contains(to)) {
            return no(9);
        }
        List<List<Integer>> fogs = new ArrayList<>();
        for (List<Integer> b : w.fog.keySet()) {
            if (w.isFoggy(b.get(0), b.get(1)) && !b.equals(from) && !b.equals(to)) {
                fogs.add(b);
            }
        }
        for (int many = 0; ; many++) {
            if (closes(from, to, fogs, new HashSet<>(fogs), 0, many)) {
                return say(many);
            }
        }
    }

    // ---- HOLDERS

    public int together(int gate, int holders) {
        if (!isGate(gate)) {
            return no(2);
        }
        return isSet(holders) ? say(can(gate, holders) ? 1 : 0) : no(5);
    }

    private int votingCode(int gate) {
        return !isGate(gate) ? 2 : can(gate, (1 << w.votes.size()) - 1) ? 0 : 8;
    }

    private int fewestOf(int gate) {
        for (int size = 0; ; size++) {
            for (int set = 0; set < 1 << w.votes.size(); set++) {
                if (Integer.bitCount(set) == size && can(gate, set)) {
                    return set;
                }
            }
        }
    }

    public int fewest(int gate) {
        int code = votingCode(gate);
        return code == 0 ? say(Integer.bitCount(fewestOf(gate))) : no(code);
    }

    public int fewestSet(int gate) {
        int code = votingCode(gate);
        return code == 0 ? say(fewestOf(gate)) : no(code);
    }

    private static void orders(List<Integer> order, int n, List<List<Integer>> all) {
        if (order.size() == n) {
            all.add(new ArrayList<>(order));
            return;
        }
        for (int i = 0; i < n; i++) {
            if (!order.contains(i)) {
                order.add(i);
                orders(order, n, all);
                order.remove(order.size() - 1);
            }
        }
    }

    private static List<List<Integer>> orders(int n) {
        List<List<Integer>> all = new ArrayList<>();
        orders(new ArrayList<>(), n, all);
        return all;
    }

    private int[] deciding(int gate) {
        int[] times = new int[7];
        for (List<Integer> order : orders(w.votes.size())) {
            int set = 0;
            for (int h : order) {
                boolean before = can(gate, set);
                set |= 1 << h;
                if (!before && can(gate, set)) {
                    times[h]++;
                }
            }
            times[6]++;
        }
        return times;
    }

    private void tell(long above, long below) {
        long d = Math.max(above, below);
        while (above % d != 0 || below % d != 0) {
            d--;
        }
        top = above / d;
        bottom = below / d;
    }

    public boolean power(int gate, int holder) {
        int code = !in(holder, 0, w.votes.size() - 1) ? 2 : votingCode(gate);
        if (code != 0) {
            return not(code);
        }
        int[] times = deciding(gate);
        tell(times[holder], times[6]);
        return yes();
    }

    public int veto(int gate) {
        int code = votingCode(gate);
        if (code != 0) {
            return no(code);
        }
        int all = (1 << w.votes.size()) - 1;
        int set = 0;
        for (int i = 0; i < w.votes.size(); i++) {
            set |= can(gate, all ^ 1 << i) ? 0 : 1 << i;
        }
        return say(set);
    }

    public int idle(int gate) {
        int code = votingCode(gate);
        if (code != 0) {
            return no(code);
        }
        int[] times = deciding(gate);
        int set = 0;
        for (int i = 0; i < w.votes.size(); i++) {
            set |= times[i] == 0 ? 1 << i : 0;
        }
        return say(set);
    }

    public int reach(int holders) {
        if (!isSet(holders)) {
            return no(5);
        }
        int set = 0;
        for (int g = 0; g < w.gates.size(); g++) {
            set |= can(g, holders) ? 1 << g : 0;
        }
        return say(set);
    }

    // ---- KEYS

    private List<List<Integer>> ways;

    private int tries(int tray, int n) {
        if (!in(tray, 0, 3)) {
            return 1;
        }
        if (trays[tray] == null) {
            return 3;
        }
        if (n > trays[tray].length) {
            return 4;
        }
        if (n < 0) {
            return 5;
        }
        int gates = w.gates.size();
        ways = orders(gates);
        for (int i = 0; i < n; i++) {
            long v = trays[tray][i];
            boolean isTry = false;
            for (int key = 0; key < gates; key++) {
                for (int gate = 0; gate < gates; gate++) {
                    for (int fit = 0; fit < 2; fit++) {
                        if (v == 100L * key + 10L * gate + fit) {
                            isTry = true;
                            int k = key;
                            int g = gate;
                            int f = fit;
                            ways.removeIf(way -> (way.get(k) == g) != (f == 1));
                        }
                    }
                }
            }
            if (!isTry) {
                return 5;
            }
        }
        return 0;
    }

    private long with(int key, int gate) {
        return ways.stream().filter(way -> way.get(key) == gate).count();
    }

    public int fits(int tray, int n) {
        int code = tries(tray, n);
        return code == 0 ? say(ways.size()) : no(code);
    }

    public int known(int key, int tray, int n) {
        int code = in(tray, 0, 3) && !isGate(key) ? 2 : tries(tray, n);
        if (code != 0) {
            return no(code);
        }
        for (int g = 0; g < w.gates.size() && !ways.isEmpty(); g++) {
            if (with(key, g) == ways.size()) {
                return say(g);
            }
        }
        return no(8);
    }

    public int next(int tray, int n) {
        int code = tries(tray, n);
        if (code != 0) {
            return no(code);
        }
        if (ways.size() < 2) {
            return no(8);
        }
        int best = -1;
        long least = Long.MAX_VALUE;
        for (int k = 0; k < w.gates.size(); k++) {
            for (int g = 0; g < w.gates.size(); g++) {
                long worst = Math.max(with(k, g), ways.size() - with(k, g));
                if (worst < least) {
                    least = worst;
                    best = 10 * k + g;
                }
            }
        }
        return say(best);
    }

    public boolean chance(int key, int gate, int tray, int n) {
        int code = in(tray, 0, 3) && (!isGate(key) || !isGate(gate)) ? 2 : tries(tray, n);
        if (code == 0 && ways.isEmpty()) {
            code = 8;
        }
        if (code != 0) {
            return not(code);
        }
        tell(with(key, gate), ways.size());
        return yes();
    }

    // ---- NIGHTS

    private static final class Ended extends RuntimeException {
        private static final long serialVersionUID = 1L;
    }

    private static final class Night {
        World w;
        int s;
        int steps;
        int[] facts = new int[5];

        int draw(int n) {
            s = (int) ((s * 2971L + 10667L) % 65536L);
            return (s / 8) % n;
        }

        boolean holds(Step step) {
            int[] n = step.numbers();
            if (step.test().equals("open")) {
                return w.open.contains(n[0]);
            }
            if (step.test().equals("foggy")) {
                return w.isFoggy(n[0], n[1]);
            }
            int compared = Integer.compare(w.sum(n[0], n[1]), n[2]);
            return compared == (step.sign() == '<' ? -1 : step.sign() == '>' ? 1 : 0);
        }

        void miss(boolean done) {
            facts[0] += done ? 0 : 1;
        }

        void run(List<Step> list) {
            for (Step step : list) {
                if (steps == 300) {
                    facts[4] = 1;
                    throw new Ended();
                }
                steps++;
                int n = step.numbers()[0];
                switch (step.word()) {
                    case "hour" -> {
                        miss(w.hour + n <= 9999);
                        for (int i = 0, from = w.hour; from + n <= 9999 && i < n; i++) {
                            w.pass();
                            facts[1]++;
                            facts[2] += w.foggyCount();
                        }
                    }
                    case "open" -> miss(w.open.add(n));
                    case "shut" -> miss(w.open.remove(n));
                    case "wind" -> {
                        miss(w.wind != n);
                        w.wind = n;
                    }
                    case "storm" -> {
                        facts[3]++;
                        w.wind = draw(5);
                        w.open.clear();
                        for (int i = 0; i < w.gates.size(); i++) {
                            if (draw(2) == 1) {
                                w.open.add(i);
                            }
                        }
                    }
                    case "when" -> {
                        if (holds(step)) {
                            run(step.inner());
                        }
                    }
                    case "loop" -> {
                        for (int i = 0; i < n; i++) {
                            run(step.inner());
                        }
                    }
                    default -> throw new Ended();
                }
            }
        }
    }

    private Night night(World from, int seed) {
        Night night = new Night();
        night.w = from;
        night.s = seed;
        try {
            night.run(from.nights);
        } catch (Ended e) {
            return night;
        }
        return night;
    }

    public int live(int seed) {
        if (!in(seed, 0, 9999)) {
            return no(5);
        }
        if (w.nights == null) {
            return no(8);
        }
        Night night = night(w, seed);
        w = night.w;
        lived = night.facts;
        return say(night.steps);
    }

    public int lived(int what) {
        if (!in(what, 0, 4)) {
            return no(5);
        }
        return lived == null ? no(8) : say(lived[what]);
    }

    public boolean mean(int seed, int many) {
        if (!in(seed, 0, 9999) || !in(many, 1, 20) || seed + many - 1 > 9999) {
            return not(5);
        }
        if (w.nights == null) {
            return not(8);
        }
        long sum = 0;
        for (int i = 0; i < many; i++) {
            sum += night(w.copy(), seed + i).w.foggyCount();
        }
        tell(sum, many);
        return yes();
    }

    // ---- MARKS

    public int mark() {
        if (marks.size() == 3) {
            return no(7);
        }
        marks.add(w.copy());
        return say(marks.size());
    }

    public int back() {
        if (marks.isEmpty()) {
            return no(8);
        }
        w = marks.remove(marks.size() - 1);
        return say(marks.size());
    }
}
