import java.util.Arrays;

/** A port whose fog is let in by gates with keys; the document tells what each call does. */
public final class FogKeys {
    public static final int NONE = -1;

    private static final int MOST_BOARDS = 30;
    private static final int FOG_PLACES = 60;
    private static final int MOST_FOG = 999;
    private static final int MOST_GATES = 6;
    private static final int MOST_HOLDERS = 6;
    private static final int MOST_TRADES = 6;
    private static final int MOST_SHIPS = 4;
    private static final int MOST_NAMES = 22;
    private static final int GATE_FACTS = 5;
    private static final int TRADE_FACTS = 6;
    private static final int SHIP_FACTS = 5;
    private static final int LAST_HOUR = 9999;
    private static final int LAST_SEED = 9999;
    private static final int LONGEST_FORECAST = 48;
    private static final int LAST_TRADE_HOUR = 24;
    private static final int TAPE_BYTES = 900;
    private static final int NIGHTS_BYTES = 300;
    private static final int FEED_BYTES = 20;
    private static final int MOST_MARKS = 3;
    private static final int MOST_SEEDS = 20;
    private static final int MANY_FACTS = 14;
    private static final int LIFE_FACTS = 5;

    private static final int NO_TRAY = 1;
    private static final int NO_THING = 2;
    private static final int IS_MISSING = 3;
    private static final int NO_PLACE = 4;
    private static final int BAD_NUMBER = 5;
    private static final int BELOW_ZERO = 6;
    private static final int TOO_MANY = 7;
    private static final int THERE_IS_NONE = 8;
    private static final int CAN_NOT_BE = 9;
    private static final int HAS_FAULT = 10;
    private static final int UNLIKE_SORTS = 11;

    // Directions 1 to 4 are those of the WIND; 0 goes nowhere.
    private static final int DIRECTIONS = 4;
    private static final int[] COLUMN_STEPS = {0, 1, 0, -1, 0};
    private static final int[] ROW_STEPS = {0, 0, 1, 0, -1};
    private static final int[] OPPOSITES = {0, 3, 4, 1, 2};
    private static final int[] FACTORIALS = {1, 1, 2, 6, 24, 120, 720};

    private int statusNow;
    private long fractionTop;
    private long fractionBottom;
    private int tapeLength;
    private int markCount;
    private final byte[] tape;
    private final Trays trays;
    private final Port portNow;
    private final Port portSpare;
    private final Port[] marks;
    private final Nights nightsSpare;
    private final Scanner scanner;
    private final PortReader portReader;
    private final NightsReader nightsReader;
    private final Weather weather;
    private final Forecast forecast;
    private final Roads roads;
    private final Keyring keyring;
    private final Life latestLife;
    private final Life trialLife;

    public FogKeys() {
        statusNow = 0;
        fractionTop = 0;
        fractionBottom = 1;
        tape = new byte[TAPE_BYTES];
        trays = new Trays();
        portNow = new Port();
        portSpare = new Port();
        marks = new Port[MOST_MARKS];
        for (int i = 0; i < MOST_MARKS; i++) {
            marks[i] = new Port();
        }
        nightsSpare = new Nights();
        scanner = new Scanner(tape);
        portReader = new PortReader(scanner);
        nightsReader = new NightsReader(scanner);
        weather = new Weather();
        forecast = new Forecast(weather);
        roads = new Roads(weather);
        keyring = new Keyring();
        latestLife = new Life(weather);
        trialLife = new Life(weather);
    }

    public int status() {
        return statusNow;
    }

    public long top() {
        return fractionTop;
    }

    public long bottom() {
        return fractionBottom;
    }

    // ---- TRAYS

    public boolean tray(int tray, int sort, int many) {
        if (!trays.isTray(tray) || sort < 0 || sort > Trays.LAST_SORT) {
            return refusedFlag(NO_TRAY);
        }
        if (many > Trays.MOST_NUMBERS) {
            return refusedFlag(BAD_NUMBER);
        }
        if (many < 0) {
            return refusedFlag(BELOW_ZERO);
        }
        trays.make(tray, sort, many);
        return granted();
    }

    public boolean write(int tray, int place, long v) {
        int code = trays.codeOfPlace(tray, place);
        if (code != 0) {
            return refusedFlag(code);
        }
        trays.put(tray, place, v);
        return granted();
    }

    public long read(int tray, int place) {
        int code = trays.codeOfPlace(tray, place);
        if (code != 0) {
            return refused(code);
        }
        statusNow = 0;
        return trays.numbers[tray][place];
    }

    public boolean pour(int tray, int i, int to, int j, int many) {
        int code = trays.codeOfPour(tray, i, to, j, many);
        if (code != 0) {
            return refusedFlag(code);
        }
        System.arraycopy(trays.numbers[tray], i, trays.numbers[to], j, many);
        return granted();
    }

    // ---- texts

    public int feed(int a, int b, int c, int d, int e) {
        if (tapeLength + FEED_BYTES > TAPE_BYTES) {
            return NONE;
        }
        appendBytes(a);
        appendBytes(b);
        appendBytes(c);
        appendBytes(d);
        appendBytes(e);
        return tapeLength;
    }

    public int port(int n) {
        if (n < 0 || n > tapeLength) {
            return refused(BAD_NUMBER);
        }
        boolean isTaken = portReader.fill(portSpare, n);
        tapeLength = 0;
        if (!isTaken) {
            return refused(HAS_FAULT);
        }
        portNow.copyFrom(portSpare);
        return answered(portNow.gateCount);
    }

    public int nights(int n) {
        if (n < 0 || n > tapeLength || n > NIGHTS_BYTES) {
            return refused(BAD_NUMBER);
        }
        boolean isTaken = nightsReader.fill(nightsSpare, portNow, n);
        tapeLength = 0;
        if (!isTaken) {
            return refused(HAS_FAULT);
        }
        portNow.nightsPlan.copyFrom(nightsSpare);
        return answered(nightsSpare.stepCount);
    }

    public int fault(int what) {
        if (what == 0) {
            return scanner.faultKind;
        }
        return what == 1 ? scanner.faultPlace : NONE;
    }

    public int many(int what) {
        if (what < 0 || what >= MANY_FACTS) {
            return refused(BAD_NUMBER);
        }
        return answered(portNow.factOf(what));
    }

    public int gate(int gate, int what) {
        if (!portNow.isGate(gate)) {
            return refused(NO_THING);
        }
        if (what < 0 || what >= GATE_FACTS) {
            return refused(BAD_NUMBER);
        }
        return answered(portNow.gateFacts[gate * GATE_FACTS + what]);
    }

    public int votes(int holder) {
        if (!portNow.isHolder(holder)) {
            return refused(NO_THING);
        }
        return answered(portNow.voteRow[holder]);
    }

    public int trade(int trade, int what) {
        if (trade < 0 || trade >= portNow.tradeCount) {
            return refused(NO_THING);
        }
        if (what < 0 || what >= TRADE_FACTS) {
            return refused(BAD_NUMBER);
        }
        return answered(portNow.tradeFacts[trade * TRADE_FACTS + what]);
    }

    public int ship(int ship, int what) {
        if (!portNow.isShip(ship)) {
            return refused(NO_THING);
        }
        if (what < 0 || what >= SHIP_FACTS) {
            return refused(BAD_NUMBER);
        }
        return answered(portNow.shipFacts[ship * SHIP_FACTS + what]);
    }

    public int fog(int column, int row, int kind) {
        if (!portNow.isBoard(column, row)) {
            return refused(NO_THING);
        }
        if (kind < 0 || kind > 1) {
            return refused(BAD_NUMBER);
        }
        return answered(portNow.fogNow[kind * MOST_BOARDS + portNow.boardAt(column, row)]);
    }

    public int foggy(int column, int row) {
        if (!portNow.isBoard(column, row)) {
            return refused(NO_THING);
        }
        return answered(portNow.isFoggy(portNow.fogNow, portNow.boardAt(column, row)) ? 1 : 0);
    }

    public int copyFog(int tray) {
        int boards = portNow.boardCount();
        int code = trays.codeOfLength(tray, boards);
        if (code != 0) {
            return refused(code);
        }
        for (int board = 0; board < boards; board++) {
            trays.put(tray, board, Port.bothKinds(portNow.fogNow, board));
        }
        return answered(boards);
    }

    // ---- what is done

    public int hour(int hours) {
        if (hours < 1 || hours > LONGEST_FORECAST) {
            return refused(BAD_NUMBER);
        }
        if (portNow.hourNow + hours > LAST_HOUR) {
            return refused(TOO_MANY);
        }
        weather.passHours(portNow, hours);
        return answered(portNow.hourNow);
    }

    public boolean open(int gate, boolean is) {
        if (!portNow.isGate(gate)) {
            return refusedFlag(NO_THING);
        }
        if (portNow.isOpen(gate) == is) {
            return refusedFlag(CAN_NOT_BE);
        }
        portNow.setOpen(gate, is);
        return granted();
    }

    public boolean openBy(int gate, int holders) {
        if (!portNow.isGate(gate)) {
            return refusedFlag(NO_THING);
        }
        if (!portNow.isHolderSet(holders)) {
            return refusedFlag(BAD_NUMBER);
        }
        if (portNow.isOpen(gate) || !portNow.canOpen(gate, holders)) {
            return refusedFlag(CAN_NOT_BE);
        }
        portNow.setOpen(gate, true);
        return granted();
    }

    public boolean wind(int wind) {
        if (wind < 0 || wind > DIRECTIONS) {
            return refusedFlag(BAD_NUMBER);
        }
        if (wind == portNow.windNow) {
            return refusedFlag(CAN_NOT_BE);
        }
        portNow.windNow = wind;
        return granted();
    }

    public int sweep(int column, int row) {
        if (!portNow.isBoard(column, row)) {
            return refused(NO_THING);
        }
        int board = portNow.boardAt(column, row);
        int much = Port.bothKinds(portNow.fogNow, board);
        portNow.fogNow[board] = 0;
        portNow.fogNow[MOST_BOARDS + board] = 0;
        return answered(much);
    }

    public int breathe(int column, int row, int kind, int much) {
        if (!portNow.isBoard(column, row)) {
            return refused(NO_THING);
        }
        if (kind < 0 || kind > 1 || much < 1 || much > MOST_FOG) {
            return refused(BAD_NUMBER);
        }
        int place = kind * MOST_BOARDS + portNow.boardAt(column, row);
        portNow.fogNow[place] = Math.min(MOST_FOG, portNow.fogNow[place] + much);
        return answered(portNow.fogNow[place]);
    }

    public boolean tow(int ship, int column, int row) {
        if (!portNow.isShip(ship) || !portNow.isBoard(column, row)) {
            return refusedFlag(NO_THING);
        }
        int at = ship * SHIP_FACTS;
        if (portNow.shipFacts[at] == column && portNow.shipFacts[at + 1] == row) {
            return refusedFlag(CAN_NOT_BE);
        }
        portNow.shipFacts[at] = column;
        portNow.shipFacts[at + 1] = row;
        return granted();
    }

    // ---- what comes

    public int later(int column, int row, int hours) {
        if (!portNow.isBoard(column, row)) {
            return refused(NO_THING);
        }
        if (hours < 0 || hours > LONGEST_FORECAST) {
            return refused(BAD_NUMBER);
        }
        forecast.look(portNow, hours);
        return answered(Port.bothKinds(forecast.much, portNow.boardAt(column, row)));
    }

    public int lifts(int column, int row) {
        if (!portNow.isBoard(column, row)) {
            return refused(NO_THING);
        }
        return answeredIfAny(forecast.firstHour(portNow, portNow.boardAt(column, row), false));
    }

    public int comes(int column, int row) {
        if (!portNow.isBoard(column, row)) {
            return refused(NO_THING);
        }
        return answeredIfAny(forecast.firstHour(portNow, portNow.boardAt(column, row), true));
    }

    public int foggyIn(int hours) {
        if (hours < 0 || hours > LONGEST_FORECAST) {
            return refused(BAD_NUMBER);
        }
        forecast.look(portNow, hours);
        return answered(portNow.countFoggy(forecast.much));
    }

    public int thickest(int hours) {
        if (hours < 1 || hours > LONGEST_FORECAST) {
            return refused(BAD_NUMBER);
        }
        return answered(forecast.foggiestHour(portNow, hours));
    }

    public int served() {
        return answered(forecast.servedSet(portNow));
    }

    public int paid() {
        return answered(portNow.payOf(forecast.servedSet(portNow)));
    }

    // ---- plans

    public int plan() {
        forecast.findPlan(portNow);
        return answered(forecast.bestPay);
    }

    public int planSet() {
        forecast.findPlan(portNow);
        return answered(forecast.bestFirst);
    }

    public int turn(int hours) {
        if (hours < 1 || hours >= LAST_TRADE_HOUR) {
            return refused(BAD_NUMBER);
        }
        forecast.findTurn(portNow, hours);
        return answered(forecast.bestPay);
    }

    public int turnSet(int hours, int what) {
        if (hours < 1 || hours >= LAST_TRADE_HOUR || what < 0 || what > 1) {
            return refused(BAD_NUMBER);
        }
        forecast.findTurn(portNow, hours);
        return answered(what == 0 ? forecast.bestFirst : forecast.bestSecond);
    }

    public int way(int column, int row, int toColumn, int toRow, int road) {
        if (!portNow.isBoard(column, row) || !portNow.isBoard(toColumn, toRow)) {
            return refused(NO_THING);
        }
        if (road < 0 || road > Roads.BY_ALL) {
            return refused(BAD_NUMBER);
        }
        int from = portNow.boardAt(column, row);
        return answeredIfAny(roads.leastCount(portNow, from, portNow.boardAt(toColumn, toRow), road));
    }

    public int sail(int ship) {
        if (!portNow.isShip(ship)) {
            return refused(NO_THING);
        }
        return answeredIfAny(roads.leastHours(portNow, ship));
    }

    public int watch(int column, int row, int toColumn, int toRow) {
        if (!portNow.isBoard(column, row) || !portNow.isBoard(toColumn, toRow)) {
            return refused(NO_THING);
        }
        if (Math.abs(column - toColumn) + Math.abs(row - toRow) < 2) {
            return refused(CAN_NOT_BE);
        }
        int from = portNow.boardAt(column, row);
        return answered(roads.leastWatch(portNow, from, portNow.boardAt(toColumn, toRow)));
    }

    // ---- HOLDERS

    public int together(int gate, int holders) {
        if (!portNow.isGate(gate)) {
            return refused(NO_THING);
        }
        if (!portNow.isHolderSet(holders)) {
            return refused(BAD_NUMBER);
        }
        return answered(portNow.canOpen(gate, holders) ? 1 : 0);
    }

    public int fewest(int gate) {
        int code = codeOfVoting(gate);
        if (code != 0) {
            return refused(code);
        }
        return answered(Integer.bitCount(portNow.smallestSet(gate)));
    }

    public int fewestSet(int gate) {
        int code = codeOfVoting(gate);
        if (code != 0) {
            return refused(code);
        }
        return answered(portNow.smallestSet(gate));
    }

    public boolean power(int gate, int holder) {
        if (!portNow.isHolder(holder)) {
            return refusedFlag(NO_THING);
        }
        int code = codeOfVoting(gate);
        if (code != 0) {
            return refusedFlag(code);
        }
        tellFraction(portNow.decidingOrders(gate, holder), FACTORIALS[portNow.holderCount]);
        return granted();
    }

    public int veto(int gate) {
        int code = codeOfVoting(gate);
        if (code != 0) {
            return refused(code);
        }
        return answered(portNow.neededHolders(gate));
    }

    public int idle(int gate) {
        int code = codeOfVoting(gate);
        if (code != 0) {
            return refused(code);
        }
        return answered(portNow.powerlessHolders(gate));
    }

    public int reach(int holders) {
        if (!portNow.isHolderSet(holders)) {
            return refused(BAD_NUMBER);
        }
        int set = 0;
        for (int gate = 0; gate < portNow.gateCount; gate++) {
            if (portNow.canOpen(gate, holders)) {
                set |= 1 << gate;
            }
        }
        return answered(set);
    }

    // ---- KEYS

    public int fits(int tray, int n) {
        int code = codeOfTries(tray, n);
        if (code != 0) {
            return refused(code);
        }
        return answered(keyring.ways);
    }

    public int known(int key, int tray, int n) {
        int code = codeOfKey(key, key, tray, n);
        if (code != 0) {
            return refused(code);
        }
        return answeredIfAny(keyring.onlyGate(key));
    }

    public int next(int tray, int n) {
        int code = codeOfTries(tray, n);
        if (code != 0) {
            return refused(code);
        }
        return answeredIfAny(keyring.bestTry());
    }

    public boolean chance(int key, int gate, int tray, int n) {
        int code = codeOfKey(key, gate, tray, n);
        if (code != 0) {
            return refusedFlag(code);
        }
        if (keyring.ways == 0) {
            return refusedFlag(THERE_IS_NONE);
        }
        tellFraction(keyring.waysWith(key, gate), keyring.ways);
        return granted();
    }

    // ---- NIGHTS

    public int live(int seed) {
        if (seed < 0 || seed > LAST_SEED) {
            return refused(BAD_NUMBER);
        }
        if (!portNow.nightsPlan.isThere) {
            return refused(THERE_IS_NONE);
        }
        latestLife.run(portNow, seed);
        return answered(latestLife.steps);
    }

    public int lived(int what) {
        if (what < 0 || what >= LIFE_FACTS) {
            return refused(BAD_NUMBER);
        }
        if (!latestLife.isThere) {
            return refused(THERE_IS_NONE);
        }
        return answered(latestLife.factOf(what));
    }

    public boolean mean(int seed, int many) {
        if (seed < 0 || seed > LAST_SEED || many < 1 || many > MOST_SEEDS || seed + many - 1 > LAST_SEED) {
            return refusedFlag(BAD_NUMBER);
        }
        if (!portNow.nightsPlan.isThere) {
            return refusedFlag(THERE_IS_NONE);
        }
        int sum = 0;
        for (int i = 0; i < many; i++) {
            portSpare.copyFrom(portNow);
            trialLife.run(portSpare, seed + i);
            sum += portSpare.countFoggy(portSpare.fogNow);
        }
        tellFraction(sum, many);
        return granted();
    }

    // ---- MARKS

    public int mark() {
        if (markCount >= MOST_MARKS) {
            return refused(TOO_MANY);
        }
        marks[markCount].copyFrom(portNow);
        markCount++;
        return answered(markCount);
    }

    public int back() {
        if (markCount <= 0) {
            return refused(THERE_IS_NONE);
        }
        markCount--;
        portNow.copyFrom(marks[markCount]);
        return answered(markCount);
    }

    // ---- how calls answer

    private int refused(int code) {
        statusNow = code;
        return NONE;
    }

    private boolean refusedFlag(int code) {
        statusNow = code;
        return false;
    }

    private int answered(int value) {
        statusNow = 0;
        return value;
    }

    private int answeredIfAny(int value) {
        return value == NONE ? refused(THERE_IS_NONE) : answered(value);
    }

    private boolean granted() {
        statusNow = 0;
        return true;
    }

    private void tellFraction(long above, long below) {
        long a = above;
        long b = below;
        for (int i = 0; i < 100 && b != 0; i++) {
            long rest = a % b;
            a = b;
            b = rest;
        }
        if (a <= 0) {
            return;
        }
        fractionTop = above / a;
        fractionBottom = below / a;
    }

    private void appendBytes(int four) {
        for (int shift = 24; shift >= 0 && tapeLength < TAPE_BYTES; shift -= 8) {
            tape[tapeLength] = (byte) (four >>> shift);
            tapeLength++;
        }
    }

    private int codeOfVoting(int gate) {
        if (!portNow.isGate(gate)) {
            return NO_THING;
        }
        return portNow.canOpen(gate, portNow.allHolders()) ? 0 : THERE_IS_NONE;
    }

    private int codeOfTries(int tray, int n) {
        int code = trays.codeOfLength(tray, n);
        if (code != 0) {
            return code;
        }
        if (n < 0 || !keyring.take(trays.numbers[tray], n, portNow.gateCount)) {
            return BAD_NUMBER;
        }
        return 0;
    }

    private int codeOfKey(int key, int gate, int tray, int n) {
        if (!trays.isTray(tray)) {
            return NO_TRAY;
        }
        if (!portNow.isGate(key) || !portNow.isGate(gate)) {
            return NO_THING;
        }
        return codeOfTries(tray, n);
    }

    /** Four rows of numbers, each of its own width. */
    private static final class Trays {
        static final int TRAYS = 4;
        static final int LAST_SORT = 3;
        static final int MOST_NUMBERS = 60;

        final long[][] numbers = new long[TRAYS][MOST_NUMBERS];
        final int[] sorts = new int[TRAYS];
        final int[] lengths = new int[TRAYS];

        Trays() {
            Arrays.fill(lengths, NONE);
        }

        boolean isTray(int tray) {
            return tray >= 0 && tray < TRAYS;
        }

        void make(int tray, int sort, int length) {
            Arrays.fill(numbers[tray], 0L);
            sorts[tray] = sort;
            lengths[tray] = length;
        }

        void put(int tray, int place, long v) {
            numbers[tray][place] = cut(v, sorts[tray]);
        }

        int codeOfTray(int tray) {
            if (!isTray(tray)) {
                return NO_TRAY;
            }
            return lengths[tray] < 0 ? IS_MISSING : 0;
        }

        int codeOfPlace(int tray, int place) {
            int code = codeOfTray(tray);
            if (code != 0) {
                return code;
            }
            return place < 0 || place >= lengths[tray] ? NO_PLACE : 0;
        }

        int codeOfLength(int tray, int least) {
            int code = codeOfTray(tray);
            if (code != 0) {
                return code;
            }
            return least > lengths[tray] ? NO_PLACE : 0;
        }

        int codeOfPour(int tray, int i, int to, int j, int length) {
            if (!isTray(tray) || !isTray(to)) {
                return NO_TRAY;
            }
            if (lengths[tray] < 0 || lengths[to] < 0) {
                return IS_MISSING;
            }
            if (sorts[tray] != sorts[to]) {
                return UNLIKE_SORTS;
            }
            if (length < 0) {
                return BELOW_ZERO;
            }
            return hasRange(tray, i, length) && hasRange(to, j, length) ? 0 : NO_PLACE;
        }

        private boolean hasRange(int tray, int from, int length) {
            return from >= 0 && length <= lengths[tray] && from <= lengths[tray] - length;
        }

        private static long cut(long v, int sort) {
            switch (sort) {
                case 0:
                    return (byte) v;
                case 1:
                    return (short) v;
                case 2:
                    return (int) v;
                default:
                    return v;
            }
        }
    }

    /** A PORT with all that became of it, and the NIGHTS that go with it. */
    private static final class Port {
        int wide;
        int deep;
        int windNow;
        int thinsBy;
        int foggyFrom;
        int hourNow;
        int openGates;
        int gateCount;
        int holderCount;
        int tradeCount;
        int shipCount;
        // Facts stand in the order in which gate(), trade(), ship() tell them.
        final int[] gateFacts = new int[MOST_GATES * GATE_FACTS];
        final long[] gateNames = new long[MOST_GATES];
        final int[] voteRow = new int[MOST_HOLDERS];
        final int[] tradeFacts = new int[MOST_TRADES * TRADE_FACTS];
        final int[] shipFacts = new int[MOST_SHIPS * SHIP_FACTS];
        // WOOL of all boards, then what ANSWERS.
        final int[] fogNow = new int[FOG_PLACES];
        final Nights nightsPlan = new Nights();

        Port() {
            thinsBy = 1;
            foggyFrom = 10;
        }

        void clear() {
            wide = 0;
            deep = 0;
            windNow = 0;
            thinsBy = 1;
            foggyFrom = 10;
            hourNow = 0;
            openGates = 0;
            gateCount = 0;
            holderCount = 0;
            tradeCount = 0;
            shipCount = 0;
            Arrays.fill(fogNow, 0);
            nightsPlan.clear();
        }

        void copyFrom(Port other) {
            wide = other.wide;
            deep = other.deep;
            windNow = other.windNow;
            thinsBy = other.thinsBy;
            foggyFrom = other.foggyFrom;
            hourNow = other.hourNow;
            openGates = other.openGates;
            gateCount = other.gateCount;
            holderCount = other.holderCount;
            tradeCount = other.tradeCount;
            shipCount = other.shipCount;
            System.arraycopy(other.gateFacts, 0, gateFacts, 0, gateFacts.length);
            System.arraycopy(other.gateNames, 0, gateNames, 0, gateNames.length);
            System.arraycopy(other.voteRow, 0, voteRow, 0, voteRow.length);
            System.arraycopy(other.tradeFacts, 0, tradeFacts, 0, tradeFacts.length);
            System.arraycopy(other.shipFacts, 0, shipFacts, 0, shipFacts.length);
            System.arraycopy(other.fogNow, 0, fogNow, 0, fogNow.length);
            nightsPlan.copyFrom(other.nightsPlan);
        }

        int factOf(int what) {
            switch (what) {
                case 0:
                    return wide;
                case 1:
                    return deep;
                case 2:
                    return gateCount;
                case 3:
                    return holderCount;
                case 4:
                    return tradeCount;
                case 5:
                    return shipCount;
                case 6:
                    return windNow;
                case 7:
                    return thinsBy;
                case 8:
                    return foggyFrom;
                case 9:
                    return hourNow;
                case 10:
                    return openGates;
                case 11:
                    return sumOfKind(0);
                case 12:
                    return sumOfKind(1);
                default:
                    return countFoggy(fogNow);
            }
        }

        private int sumOfKind(int kind) {
            int sum = 0;
            for (int board = 0; board < MOST_BOARDS; board++) {
                sum += fogNow[kind * MOST_BOARDS + board];
            }
            return sum;
        }

        boolean isBoard(int column, int row) {
            return column >= 0 && column < wide && row >= 0 && row < deep;
        }

        boolean isGate(int number) {
            return number >= 0 && number < gateCount;
        }

        boolean isHolder(int number) {
            return number >= 0 && number < holderCount;
        }

        boolean isShip(int number) {
            return number >= 0 && number < shipCount;
        }

        int boardAt(int column, int row) {
            return row * wide + column;
        }

        int boardCount() {
            return wide * deep;
        }

        /** The board next to one by a direction, or NONE out of the PORT. */
        int beside(int board, int direction) {
            if (wide <= 0) {
                return NONE;
            }
            int column = board % wide + COLUMN_STEPS[direction];
            int row = board / wide + ROW_STEPS[direction];
            return isBoard(column, row) ? boardAt(column, row) : NONE;
        }

        static int bothKinds(int[] much, int board) {
            return much[board] + much[MOST_BOARDS + board];
        }

        boolean isFoggy(int[] much, int board) {
            return bothKinds(much, board) >= foggyFrom;
        }

        int countFoggy(int[] much) {
            int boards = boardCount();
            int count = 0;
            for (int board = 0; board < boards; board++) {
                if (much[board] + much[MOST_BOARDS + board] >= foggyFrom) {
                    count++;
                }
            }
            return count;
        }

        boolean isOpen(int number) {
            return (openGates >> number & 1) == 1;
        }

        void setOpen(int number, boolean is) {
            openGates = is ? openGates | 1 << number : openGates & ~(1 << number);
        }

        int payOf(int trades) {
            int pay = 0;
            for (int i = 0; i < tradeCount; i++) {
                if ((trades >> i & 1) == 1) {
                    pay += tradeFacts[i * TRADE_FACTS + 4];
                }
            }
            return pay;
        }

        boolean isHolderSet(int set) {
            return set >= 0 && set <= allHolders();
        }

        int allHolders() {
            return (1 << holderCount) - 1;
        }

        private int votesTogether(int set) {
            int sum = 0;
            for (int i = 0; i < holderCount; i++) {
                if ((set >> i & 1) == 1) {
                    sum += voteRow[i];
                }
            }
            return sum;
        }

        private int quotaOf(int number) {
            return gateFacts[number * GATE_FACTS + 4];
        }

        boolean canOpen(int number, int set) {
            return votesTogether(set) >= quotaOf(number);
        }

        int smallestSet(int number) {
            int best = allHolders();
            for (int set = 0; set <= allHolders(); set++) {
                if (canOpen(number, set) && Integer.bitCount(set) < Integer.bitCount(best)) {
                    best = set;
                }
            }
            return best;
        }

        /** In how many orders of all HOLDERS the GATE can be OPENED from this one on. */
        int decidingOrders(int number, int holder) {
            int orders = 0;
            for (int ahead = 0; ahead <= allHolders(); ahead++) {
                boolean isApart = (ahead >> holder & 1) == 0;
                if (isApart && !canOpen(number, ahead) && canOpen(number, ahead | 1 << holder)) {
                    int size = Integer.bitCount(ahead);
                    orders += FACTORIALS[size] * FACTORIALS[holderCount - size - 1];
                }
            }
            return orders;
        }

        int neededHolders(int number) {
            int set = 0;
            for (int i = 0; i < holderCount; i++) {
                if (!canOpen(number, allHolders() & ~(1 << i))) {
                    set |= 1 << i;
                }
            }
            return set;
        }

        int powerlessHolders(int number) {
            int set = 0;
            for (int i = 0; i < holderCount; i++) {
                if (decidingOrders(number, i) == 0) {
                    set |= 1 << i;
                }
            }
            return set;
        }
    }

    /** What an HOUR does to fog. */
    private static final class Weather {
        private final int[] was = new int[FOG_PLACES];
        private final int[] ahead = new int[FOG_PLACES];

        /** Lets HOURS go by for good; answers how many boards were FOGGY at their ends, together. */
        int passHours(Port port, int hours) {
            int sum = 0;
            int count = 0;
            boolean isStill = false;
            for (int i = 0; i < hours; i++) {
                // An HOUR that changed nothing is like all that follow: long NIGHTS need not go through them.
                if (!isStill) {
                    System.arraycopy(port.fogNow, 0, ahead, 0, FOG_PLACES);
                    passHour(port, port.fogNow, port.openGates);
                    count = port.countFoggy(port.fogNow);
                    isStill = isAsAhead(port.fogNow);
                }
                sum += count;
            }
            port.hourNow += hours;
            return sum;
        }

        private boolean isAsAhead(int[] much) {
            for (int i = 0; i < FOG_PLACES; i++) {
                if (much[i] != ahead[i]) {
                    return false;
                }
            }
            return true;
        }

        void passHour(Port port, int[] much, int gates) {
            letIn(port, much, gates);
            System.arraycopy(much, 0, was, 0, FOG_PLACES);
            for (int first = 0; first < FOG_PLACES; first += MOST_BOARDS) {
                if (port.windNow == 0) {
                    spread(port, much, first);
                } else {
                    blow(port, much, first);
                }
            }
            settle(port, much);
        }

        private void letIn(Port port, int[] much, int gates) {
            for (int i = 0; i < port.gateCount; i++) {
                if ((gates >> i & 1) == 1) {
                    int at = i * GATE_FACTS;
                    int board = port.boardAt(port.gateFacts[at], port.gateFacts[at + 1]);
                    int place = port.gateFacts[at + 3] * MOST_BOARDS + board;
                    much[place] = Math.min(MOST_FOG, much[place] + port.gateFacts[at + 2]);
                }
            }
        }

        // Shares are taken of what was there ahead of all drift; only settle() may cut what is too much.
        private void spread(Port port, int[] much, int first) {
            int place = first;
            for (int row = 0; row < port.deep; row++) {
                for (int column = 0; column < port.wide; column++) {
                    int share = was[place] / 8;
                    if (share > 0) {
                        much[place] -= share * giveAround(port, much, place, column, row, share);
                    }
                    place++;
                }
            }
        }

        /** Gives a share to each board beside one; answers to how many. */
        private int giveAround(Port port, int[] much, int place, int column, int row, int share) {
            int given = 0;
            if (column > 0) {
                much[place - 1] += share;
                given++;
            }
            if (column < port.wide - 1) {
                much[place + 1] += share;
                given++;
            }
            if (row > 0) {
                much[place - port.wide] += share;
                given++;
            }
            if (row < port.deep - 1) {
                much[place + port.wide] += share;
                given++;
            }
            return given;
        }

        private void blow(Port port, int[] much, int first) {
            int columnStep = COLUMN_STEPS[port.windNow];
            int rowStep = ROW_STEPS[port.windNow];
            int step = rowStep * port.wide + columnStep;
            int place = first;
            for (int row = 0; row < port.deep; row++) {
                for (int column = 0; column < port.wide; column++) {
                    int share = was[place] / 4;
                    much[place] -= share;
                    if (share > 0 && port.isBoard(column + columnStep, row + rowStep)) {
                        much[place + step] += share;
                    }
                    place++;
                }
            }
        }

        private void settle(Port port, int[] much) {
            int boards = port.boardCount();
            for (int board = 0; board < boards; board++) {
                int wool = Math.min(MOST_FOG, much[board]);
                int answers = Math.min(MOST_FOG, much[MOST_BOARDS + board]);
                int met = Math.min(wool, answers);
                much[board] = Math.max(0, wool - met - port.thinsBy);
                much[MOST_BOARDS + board] = Math.max(0, answers - met - port.thinsBy);
            }
        }
    }

    /** Looks ahead on a copy of the fog. */
    private static final class Forecast {
        private final Weather weather;
        final int[] much = new int[FOG_PLACES];
        private final int[] atTurn = new int[FOG_PLACES];
        // TRADES that no HOUR so far has spoilt.
        private int unspoilt;
        private int unspoiltPay;
        private int lastHour;
        int bestPay;
        int bestFirst;
        int bestSecond;

        Forecast(Weather weather) {
            this.weather = weather;
        }

        void look(Port port, int hours) {
            System.arraycopy(port.fogNow, 0, much, 0, FOG_PLACES);
            for (int i = 0; i < hours; i++) {
                weather.passHour(port, much, port.openGates);
            }
        }

        int firstHour(Port port, int board, boolean isWantedFoggy) {
            System.arraycopy(port.fogNow, 0, much, 0, FOG_PLACES);
            for (int hours = 0; hours <= LONGEST_FORECAST; hours++) {
                if (port.isFoggy(much, board) == isWantedFoggy) {
                    return hours;
                }
                weather.passHour(port, much, port.openGates);
            }
            return NONE;
        }

        int foggiestHour(Port port, int hours) {
            System.arraycopy(port.fogNow, 0, much, 0, FOG_PLACES);
            int best = NONE;
            int bestHour = 1;
            for (int i = 1; i <= hours; i++) {
                weather.passHour(port, much, port.openGates);
                int count = port.countFoggy(much);
                if (count > best) {
                    best = count;
                    bestHour = i;
                }
            }
            return bestHour;
        }

        int servedSet(Port port) {
            begin(port);
            follow(port, port.openGates, 1, LAST_TRADE_HOUR, NONE);
            return unspoilt;
        }

        void findPlan(Port port) {
            bestPay = NONE;
            bestFirst = 0;
            int sets = 1 << port.gateCount;
            for (int size = 0; size <= port.gateCount; size++) {
                for (int set = 0; set < sets; set++) {
                    if (Integer.bitCount(set) == size) {
                        tryPlan(port, set);
                    }
                }
            }
        }

        private void tryPlan(Port port, int set) {
            begin(port);
            follow(port, set, 1, LAST_TRADE_HOUR, bestPay);
            if (unspoiltPay > bestPay) {
                bestPay = unspoiltPay;
                bestFirst = set;
            }
        }

        void findTurn(Port port, int hours) {
            bestPay = NONE;
            bestFirst = 0;
            bestSecond = 0;
            int sets = 1 << port.gateCount;
            for (int first = 0; first < sets; first++) {
                begin(port);
                follow(port, first, 1, hours, bestPay);
                if (unspoiltPay > bestPay) {
                    trySeconds(port, first, hours);
                }
            }
        }

        private void trySeconds(Port port, int first, int hours) {
            int unspoiltAtTurn = unspoilt;
            int payAtTurn = unspoiltPay;
            System.arraycopy(much, 0, atTurn, 0, FOG_PLACES);
            int sets = 1 << port.gateCount;
            for (int second = 0; second < sets; second++) {
                System.arraycopy(atTurn, 0, much, 0, FOG_PLACES);
                unspoilt = unspoiltAtTurn;
                unspoiltPay = payAtTurn;
                follow(port, second, hours + 1, LAST_TRADE_HOUR, bestPay);
                if (unspoiltPay > bestPay) {
                    bestPay = unspoiltPay;
                    bestFirst = first;
                    bestSecond = second;
                }
            }
        }

        private void begin(Port port) {
            System.arraycopy(port.fogNow, 0, much, 0, FOG_PLACES);
            unspoilt = (1 << port.tradeCount) - 1;
            unspoiltPay = port.payOf(unspoilt);
            lastHour = 0;
            for (int i = 0; i < port.tradeCount; i++) {
                lastHour = Math.max(lastHour, port.tradeFacts[i * TRADE_FACTS + 3]);
            }
        }

        // Ends early where what is left can't be more than the floor: such a set is never chosen.
        private void follow(Port port, int gates, int from, int to, int floor) {
            for (int hours = from; hours <= to && hours <= lastHour; hours++) {
                if (unspoiltPay <= floor) {
                    return;
                }
                weather.passHour(port, much, gates);
                spoil(port, hours);
            }
        }

        private void spoil(Port port, int hours) {
            for (int i = 0; i < port.tradeCount; i++) {
                int at = i * TRADE_FACTS;
                boolean isNow = hours >= port.tradeFacts[at + 2] && hours <= port.tradeFacts[at + 3];
                if (isNow && (unspoilt >> i & 1) == 1) {
                    int board = port.boardAt(port.tradeFacts[at], port.tradeFacts[at + 1]);
                    boolean isWantedFoggy = port.tradeFacts[at + 5] == 0;
                    if (port.isFoggy(much, board) != isWantedFoggy) {
                        unspoilt &= ~(1 << i);
                        unspoiltPay -= port.tradeFacts[at + 4];
                    }
                }
            }
        }
    }

    /** Ways of boards, of SHIPS, and what closes them. */
    private static final class Roads {
        static final int BY_CLEAR = 0;
        static final int BY_FOGGY = 1;
        static final int BY_ALL = 2;
        private static final int FAR = 1000;

        private final Weather weather;
        private final int[] counts = new int[MOST_BOARDS];
        private final int[] much = new int[FOG_PLACES];
        // For WATCH each board is a door in (its number) and a door out (30 more), joined while no road uses it.
        private final int[] used = new int[MOST_BOARDS];
        private final int[] roadsOut = new int[MOST_BOARDS * (DIRECTIONS + 1)];
        private final int[] cameFrom = new int[FOG_PLACES];
        private final int[] queue = new int[FOG_PLACES];
        private int queued;

        Roads(Weather weather) {
            this.weather = weather;
        }

        int leastCount(Port port, int from, int to, int road) {
            Arrays.fill(counts, FAR);
            counts[from] = 0;
            boolean isChanged = true;
            for (int round = 0; round < MOST_BOARDS && isChanged; round++) {
                isChanged = shortenAll(port, road);
            }
            return counts[to] >= FAR ? NONE : counts[to];
        }

        private boolean shortenAll(Port port, int road) {
            int boards = port.boardCount();
            boolean isChanged = false;
            for (int board = 0; board < boards; board++) {
                int price = priceOf(port, board, road);
                for (int direction = 1; direction <= DIRECTIONS; direction++) {
                    int other = port.beside(board, direction);
                    if (other != NONE && counts[other] + price < counts[board]) {
                        counts[board] = counts[other] + price;
                        isChanged = true;
                    }
                }
            }
            return isChanged;
        }

        private int priceOf(Port port, int board, int road) {
            boolean isFoggy = port.isFoggy(port.fogNow, board);
            if (road == BY_ALL) {
                return isFoggy ? 3 : 1;
            }
            return isFoggy == (road == BY_FOGGY) ? 1 : FAR;
        }

        int leastHours(Port port, int ship) {
            int at = ship * SHIP_FACTS;
            int from = port.boardAt(port.shipFacts[at], port.shipFacts[at + 1]);
            int to = port.boardAt(port.shipFacts[at + 2], port.shipFacts[at + 3]);
            boolean isDark = port.shipFacts[at + 4] == 1;
            int reached = 1 << from;
            System.arraycopy(port.fogNow, 0, much, 0, FOG_PLACES);
            for (int hours = 0; hours <= LONGEST_FORECAST && reached != 0; hours++) {
                if ((reached >> to & 1) == 1) {
                    return hours;
                }
                weather.passHour(port, much, port.openGates);
                reached = reachedThen(port, reached, isDark);
            }
            return NONE;
        }

        private int reachedThen(Port port, int reached, boolean isDark) {
            int boards = port.boardCount();
            int then = 0;
            for (int board = 0; board < boards; board++) {
                if (port.isFoggy(much, board) == isDark && isAtOrBeside(port, reached, board)) {
                    then |= 1 << board;
                }
            }
            return then;
        }

        private boolean isAtOrBeside(Port port, int reached, int board) {
            boolean is = (reached >> board & 1) == 1;
            for (int direction = 1; direction <= DIRECTIONS && !is; direction++) {
                int other = port.beside(board, direction);
                is = other != NONE && (reached >> other & 1) == 1;
            }
            return is;
        }

        /** As many boards close all roads as there are roads that share no board. */
        int leastWatch(Port port, int from, int to) {
            Arrays.fill(used, 0);
            Arrays.fill(roadsOut, 0);
            int roadCount = 0;
            // A board has four others beside it, so there can't be a fifth road.
            for (int i = 0; i < DIRECTIONS; i++) {
                if (!findRoad(port, from, to)) {
                    break;
                }
                layRoad(port, from, to);
                roadCount++;
            }
            return roadCount;
        }

        private boolean findRoad(Port port, int from, int to) {
            Arrays.fill(cameFrom, NONE);
            queued = 0;
            enqueue(MOST_BOARDS + from, MOST_BOARDS + from);
            for (int i = 0; i < queued && cameFrom[to] == NONE; i++) {
                int door = queue[i];
                if (door >= MOST_BOARDS) {
                    goOut(port, door - MOST_BOARDS, from, to);
                } else {
                    goIn(port, door, from);
                }
            }
            return cameFrom[to] != NONE;
        }

        private void enqueue(int door, int previous) {
            if (cameFrom[door] == NONE && queued < FOG_PLACES) {
                cameFrom[door] = previous;
                queue[queued] = door;
                queued++;
            }
        }

        private void goOut(Port port, int board, int from, int to) {
            for (int direction = 1; direction <= DIRECTIONS; direction++) {
                int other = port.beside(board, direction);
                boolean isWay = other != NONE && other != from && (other == to || port.isFoggy(port.fogNow, other));
                if (isWay && roadsOut[roadPlace(board, direction)] == 0) {
                    enqueue(other, MOST_BOARDS + board);
                }
            }
            if (used[board] == 1) {
                enqueue(board, MOST_BOARDS + board);
            }
        }

        private void goIn(Port port, int board, int from) {
            if (used[board] == 0) {
                enqueue(MOST_BOARDS + board, board);
            }
            for (int direction = 1; direction <= DIRECTIONS; direction++) {
                int other = port.beside(board, direction);
                if (other != NONE && other != from && roadsOut[roadPlace(other, OPPOSITES[direction])] == 1) {
                    enqueue(MOST_BOARDS + other, board);
                }
            }
        }

        private void layRoad(Port port, int from, int to) {
            int door = to;
            for (int i = 0; i < FOG_PLACES && door != MOST_BOARDS + from; i++) {
                int previous = cameFrom[door];
                int board = door % MOST_BOARDS;
                int previousBoard = previous % MOST_BOARDS;
                if (board == previousBoard) {
                    used[board] = door >= MOST_BOARDS ? 1 : 0;
                } else if (door < MOST_BOARDS) {
                    roadsOut[roadPlace(previousBoard, directionTo(port, previousBoard, board))] = 1;
                } else {
                    roadsOut[roadPlace(board, directionTo(port, board, previousBoard))] = 0;
                }
                door = previous;
            }
        }

        private int directionTo(Port port, int board, int other) {
            for (int direction = 1; direction <= DIRECTIONS; direction++) {
                if (port.beside(board, direction) == other) {
                    return direction;
                }
            }
            return 0;
        }

        private static int roadPlace(int board, int direction) {
            return board * (DIRECTIONS + 1) + direction;
        }
    }

    /** Which KEY can fit which GATE by what was tried. */
    private static final class Keyring {
        private static final int SETS = 64;

        private int gates;
        int ways;
        // By KEY and GATE: 1 while the KEY can fit the GATE.
        private final int[] can = new int[MOST_GATES * MOST_GATES];
        // By sets of GATES: ways of the first KEYS to fit these, ways of the other KEYS to fit the others.
        private final int[] firstWays = new int[SETS];
        private final int[] restWays = new int[SETS];

        /** Takes tries and counts the ways; false if a number is no try. */
        boolean take(long[] tries, int n, int gateCount) {
            gates = gateCount;
            Arrays.fill(can, 1);
            for (int i = 0; i < n && i < tries.length; i++) {
                if (!takeTry(tries[i])) {
                    return false;
                }
            }
            countWays();
            return true;
        }

        private boolean takeTry(long told) {
            if (told < 0 || told >= 100L * gates) {
                return false;
            }
            int key = (int) told / 100;
            int tried = (int) told / 10 % 10;
            int fitted = (int) told % 10;
            if (tried >= gates || fitted > 1) {
                return false;
            }
            for (int i = 0; i < gates; i++) {
                if ((i == tried) == (fitted == 0)) {
                    can[key * MOST_GATES + i] = 0;
                }
            }
            return true;
        }

        private void countWays() {
            int all = (1 << gates) - 1;
            Arrays.fill(firstWays, 0);
            Arrays.fill(restWays, 0);
            firstWays[0] = 1;
            restWays[all] = 1;
            for (int set = 0; set < all; set++) {
                for (int i = 0; i < gates; i++) {
                    if (canFollow(set, i)) {
                        firstWays[set | 1 << i] += firstWays[set];
                    }
                }
            }
            for (int set = all - 1; set >= 0; set--) {
                for (int i = 0; i < gates; i++) {
                    if (canFollow(set, i)) {
                        restWays[set] += restWays[set | 1 << i];
                    }
                }
            }
            ways = firstWays[all];
        }

        // The KEY behind those that fit the set is the one whose number is the set's size.
        private boolean canFollow(int set, int tried) {
            int key = Integer.bitCount(set);
            return key < gates && (set >> tried & 1) == 0 && can[key * MOST_GATES + tried] == 1;
        }

        int waysWith(int key, int tried) {
            int sum = 0;
            int sets = 1 << gates;
            for (int set = 0; set < sets; set++) {
                if (Integer.bitCount(set) == key && canFollow(set, tried)) {
                    sum += firstWays[set] * restWays[set | 1 << tried];
                }
            }
            return sum;
        }

        int onlyGate(int key) {
            for (int i = 0; i < gates && ways > 0; i++) {
                if (waysWith(key, i) == ways) {
                    return i;
                }
            }
            return NONE;
        }

        int bestTry() {
            if (ways < 2) {
                return NONE;
            }
            int best = NONE;
            int bestLeft = ways + 1;
            for (int key = 0; key < gates; key++) {
                for (int i = 0; i < gates; i++) {
                    int fitting = waysWith(key, i);
                    int left = Math.max(fitting, ways - fitting);
                    if (left < bestLeft) {
                        bestLeft = left;
                        best = key * 10 + i;
                    }
                }
            }
            return best;
        }
    }

    /** Reads TOKENS off the tape and keeps the first FAULT of the latest text. */
    private static final class Scanner {
        static final int END = 0;
        static final int WORD = 1;
        static final int NUMBER = 2;
        static final int SIGN = 3;
        static final int NO_TOKEN = 4;
        static final int LONGEST_NAME = 8;
        private static final int LONGEST_NUMBER = 4;
        private static final String RESERVED = " port by gate at lets answers open quota holder votes trade from to pays clear ship dark wind thins foggy hour shut storm when loop end stop ";

        private final byte[] text;
        private int length;
        int kind;
        private int start;
        private int end;
        // Of a NUMBER what it counts, of a SIGN its byte.
        int value;
        int faultKind;
        int faultPlace;

        Scanner(byte[] text) {
            this.text = text;
            faultKind = NONE;
            faultPlace = NONE;
        }

        void begin(int n) {
            length = Math.min(n, text.length);
            end = 0;
            faultKind = 0;
            faultPlace = NONE;
            advance();
        }

        boolean isGoingOn() {
            return faultKind == 0 && kind != END;
        }

        void advance() {
            start = end;
            while (start < length && (text[start] == 10 || text[start] == 32)) {
                start++;
            }
            end = start;
            value = 0;
            while (end < length && text[end] >= 'a' && text[end] <= 'z') {
                end++;
            }
            if (end > start) {
                kind = WORD;
                return;
            }
            while (end < length && text[end] >= '0' && text[end] <= '9') {
                // Five digits are no NUMBER, so what more of them would count is of no use.
                if (end - start < LONGEST_NUMBER) {
                    value = value * 10 + text[end] - '0';
                }
                end++;
            }
            if (end > start) {
                kind = end - start > LONGEST_NUMBER ? NO_TOKEN : NUMBER;
                return;
            }
            kind = END;
            if (start < length) {
                value = text[start];
                end = start + 1;
                kind = value == ';' || value == '<' || value == '>' || value == '=' ? SIGN : NO_TOKEN;
            }
        }

        /** Tells a FAULT at this TOKEN; what is no TOKEN is of the least kind, whatever was wanted there. */
        boolean refuse(int fault) {
            if (faultKind == 0) {
                faultKind = kind == NO_TOKEN ? 1 : fault;
                faultPlace = start;
            }
            return false;
        }

        boolean isWord(String word) {
            return kind == WORD && end - start == word.length() && isSameAt(word, 0);
        }

        private boolean isSameAt(String signs, int place) {
            for (int i = 0; start + i < end; i++) {
                if (place + i >= signs.length() || signs.charAt(place + i) != text[start + i]) {
                    return false;
                }
            }
            return true;
        }

        boolean tryWord(String word) {
            boolean is = isWord(word);
            if (is) {
                advance();
            }
            return is;
        }

        boolean takeWord(String word) {
            if (!isWord(word)) {
                return refuse(2);
            }
            advance();
            return true;
        }

        boolean takeSemicolon() {
            if (kind != SIGN || value != ';') {
                return refuse(2);
            }
            advance();
            return true;
        }

        boolean takeNumber(int[] row, int place, int low, int high) {
            if (kind != NUMBER) {
                return refuse(2);
            }
            if (value < low || value > high) {
                return refuse(4);
            }
            row[place] = value;
            advance();
            return true;
        }

        boolean isName() {
            int size = end - start;
            if (kind != WORD || size > LONGEST_NAME) {
                return false;
            }
            for (int i = 0; i + size + 1 < RESERVED.length(); i++) {
                boolean isBetweenBlanks = RESERVED.charAt(i) == ' ' && RESERVED.charAt(i + size + 1) == ' ';
                if (isBetweenBlanks && isSameAt(RESERVED, i + 1)) {
                    return false;
                }
            }
            return true;
        }

        /** A NAME as a number: five bits a letter, so that no two are the same. */
        long nameCode() {
            long code = 0;
            for (int i = start; i < end; i++) {
                code = code * 32 + text[i] - 'a' + 1;
            }
            return code;
        }
    }

    /** Reads the text of a PORT. */
    private static final class PortReader {
        private final Scanner scanner;
        private final long[] names = new long[MOST_NAMES];
        // wind, thins, foggy: the number told, NONE as long as it is not.
        private final int[] told = new int[3];
        private final int[] size = new int[2];
        private int nameCount;

        PortReader(Scanner scanner) {
            this.scanner = scanner;
        }

        boolean fill(Port port, int n) {
            port.clear();
            nameCount = 0;
            Arrays.fill(told, NONE);
            scanner.begin(n);
            for (int i = 0; i < TAPE_BYTES && scanner.isGoingOn(); i++) {
                readPart(port);
            }
            port.windNow = told[0] == NONE ? 0 : told[0];
            port.thinsBy = told[1] == NONE ? 1 : told[1];
            port.foggyFrom = told[2] == NONE ? 10 : told[2];
            return scanner.faultKind == 0;
        }

        private boolean readPart(Port port) {
            if (scanner.isWord("port")) {
                return readSize(port);
            }
            if (port.wide == 0) {
                return scanner.refuse(2);
            }
            if (scanner.isWord("gate")) {
                return readGate(port);
            }
            if (scanner.isWord("holder")) {
                return readHolder(port);
            }
            if (scanner.isWord("trade")) {
                return readTrade(port);
            }
            if (scanner.isWord("ship")) {
                return readShip(port);
            }
            if (scanner.isWord("wind")) {
                return readSetting(0, 0, 4);
            }
            if (scanner.isWord("thins")) {
                return readSetting(1, 0, 9);
            }
            if (scanner.isWord("foggy")) {
                return readSetting(2, 1, 99);
            }
            return scanner.refuse(2);
        }

        private boolean readSize(Port port) {
            if (port.wide != 0) {
                return scanner.refuse(5);
            }
            scanner.advance();
            boolean is = scanner.takeNumber(size, 0, 1, 6) && scanner.takeWord("by") && scanner.takeNumber(size, 1, 1, 5);
            if (!is) {
                return false;
            }
            port.wide = size[0];
            port.deep = size[1];
            return scanner.takeSemicolon();
        }

        private boolean readSetting(int which, int low, int high) {
            if (told[which] != NONE) {
                return scanner.refuse(5);
            }
            scanner.advance();
            return scanner.takeNumber(told, which, low, high) && scanner.takeSemicolon();
        }

        private boolean readGate(Port port) {
            if (port.gateCount >= MOST_GATES) {
                return scanner.refuse(6);
            }
            int[] facts = port.gateFacts;
            int at = port.gateCount * GATE_FACTS;
            scanner.advance();
            boolean is = readNewName() && scanner.takeWord("at") && readBoard(port, facts, at)
                    && scanner.takeWord("lets") && scanner.takeNumber(facts, at + 2, 1, 40);
            if (!is) {
                return false;
            }
            facts[at + 3] = scanner.tryWord("answers") ? 1 : 0;
            port.setOpen(port.gateCount, scanner.tryWord("open"));
            facts[at + 4] = 1;
            if (scanner.tryWord("quota") && !scanner.takeNumber(facts, at + 4, 1, 99)) {
                return false;
            }
            port.gateNames[port.gateCount] = names[nameCount - 1];
            port.gateCount++;
            return scanner.takeSemicolon();
        }

        private boolean readHolder(Port port) {
            if (port.holderCount >= MOST_HOLDERS) {
                return scanner.refuse(6);
            }
            scanner.advance();
            boolean is = readNewName() && scanner.takeWord("votes")
                    && scanner.takeNumber(port.voteRow, port.holderCount, 1, 20);
            if (!is) {
                return false;
            }
            port.holderCount++;
            return scanner.takeSemicolon();
        }

        private boolean readTrade(Port port) {
            if (port.tradeCount >= MOST_TRADES) {
                return scanner.refuse(6);
            }
            int[] facts = port.tradeFacts;
            int at = port.tradeCount * TRADE_FACTS;
            scanner.advance();
            boolean is = readNewName() && scanner.takeWord("at") && readBoard(port, facts, at)
                    && scanner.takeWord("from") && scanner.takeNumber(facts, at + 2, 1, LAST_TRADE_HOUR)
                    && scanner.takeWord("to") && scanner.takeNumber(facts, at + 3, facts[at + 2], LAST_TRADE_HOUR)
                    && scanner.takeWord("pays") && scanner.takeNumber(facts, at + 4, 1, 99);
            if (!is) {
                return false;
            }
            facts[at + 5] = scanner.tryWord("clear") ? 1 : 0;
            port.tradeCount++;
            return scanner.takeSemicolon();
        }

        private boolean readShip(Port port) {
            if (port.shipCount >= MOST_SHIPS) {
                return scanner.refuse(6);
            }
            int[] facts = port.shipFacts;
            int at = port.shipCount * SHIP_FACTS;
            scanner.advance();
            boolean is = readNewName() && scanner.takeWord("at") && readBoard(port, facts, at)
                    && scanner.takeWord("to") && readBoard(port, facts, at + 2);
            if (!is) {
                return false;
            }
            facts[at + 4] = scanner.tryWord("dark") ? 1 : 0;
            port.shipCount++;
            return scanner.takeSemicolon();
        }

        private boolean readBoard(Port port, int[] facts, int at) {
            return scanner.takeNumber(facts, at, 0, port.wide - 1) && scanner.takeNumber(facts, at + 1, 0, port.deep - 1);
        }

        private boolean readNewName() {
            if (!scanner.isName()) {
                return scanner.refuse(2);
            }
            long code = scanner.nameCode();
            for (int i = 0; i < nameCount; i++) {
                if (names[i] == code) {
                    return scanner.refuse(3);
                }
            }
            if (nameCount < MOST_NAMES) {
                names[nameCount] = code;
                nameCount++;
            }
            scanner.advance();
            return true;
        }
    }

    /** The STEPS of NIGHTS, one behind the other, with the ends of when and loop among them. */
    private static final class Nights {
        static final int MOST_STEPS = 30;
        static final int HOUR = 1;
        static final int OPEN = 2;
        static final int SHUT = 3;
        static final int WIND = 4;
        static final int STORM = 5;
        static final int STOP = 6;
        static final int LOOP = 7;
        static final int WHEN_FOGGY = 8;
        static final int WHEN_OPEN = 9;
        static final int WHEN_LETS = 10;
        static final int ENDING = 11;
        static final int PLACES = 60;

        boolean isThere;
        int size;
        int stepCount;
        final int[] sorts = new int[PLACES];
        // HOURS, WIND, how often, the GATE or the board.
        final int[] numbers = new int[PLACES];
        final int[] compares = new int[PLACES];
        final int[] limits = new int[PLACES];
        // Of a when, loop where its end is, of an end where its when, loop is.
        final int[] partners = new int[PLACES];

        void clear() {
            isThere = false;
            size = 0;
            stepCount = 0;
        }

        void copyFrom(Nights other) {
            isThere = other.isThere;
            size = other.size;
            stepCount = other.stepCount;
            System.arraycopy(other.sorts, 0, sorts, 0, PLACES);
            System.arraycopy(other.numbers, 0, numbers, 0, PLACES);
            System.arraycopy(other.compares, 0, compares, 0, PLACES);
            System.arraycopy(other.limits, 0, limits, 0, PLACES);
            System.arraycopy(other.partners, 0, partners, 0, PLACES);
        }

        boolean isFull() {
            return size >= PLACES;
        }
    }

    /** Reads the text of NIGHTS. */
    private static final class NightsReader {
        private static final int MOST_DEPTH = 3;

        private final Scanner scanner;
        private final int[] begun = new int[MOST_DEPTH];
        private final int[] pair = new int[2];
        private int depth;

        NightsReader(Scanner scanner) {
            this.scanner = scanner;
        }

        boolean fill(Nights plan, Port port, int n) {
            plan.clear();
            plan.isThere = true;
            depth = 0;
            scanner.begin(n);
            for (int i = 0; i < NIGHTS_BYTES && scanner.isGoingOn(); i++) {
                if (scanner.isWord("end")) {
                    readEnd(plan);
                } else {
                    readStep(plan, port);
                }
            }
            if (depth > 0) {
                scanner.refuse(2);
            }
            return scanner.faultKind == 0;
        }

        private boolean readEnd(Nights plan) {
            if (depth <= 0 || plan.isFull()) {
                return scanner.refuse(2);
            }
            scanner.advance();
            depth--;
            int at = plan.size;
            plan.sorts[at] = Nights.ENDING;
            plan.partners[at] = begun[depth];
            plan.partners[begun[depth]] = at;
            plan.size++;
            return scanner.takeSemicolon();
        }

        private boolean readStep(Nights plan, Port port) {
            int sort = sortOfWord();
            if (sort == NONE) {
                return scanner.refuse(2);
            }
            if (plan.stepCount >= Nights.MOST_STEPS || plan.isFull()) {
                return scanner.refuse(6);
            }
            boolean isBeginning = sort == Nights.LOOP || sort == Nights.WHEN_FOGGY;
            if (isBeginning && depth >= MOST_DEPTH) {
                return scanner.refuse(7);
            }
            scanner.advance();
            plan.sorts[plan.size] = sort;
            boolean is = sort == Nights.WHEN_FOGGY ? readTest(plan, port) : readRest(plan, port, sort);
            if (!is) {
                return false;
            }
            if (isBeginning) {
                begun[depth] = plan.size;
                depth++;
            }
            plan.size++;
            plan.stepCount++;
            return scanner.takeSemicolon();
        }

        // A when is taken for the first of its kinds till its TEST tells which one it is.
        private int sortOfWord() {
            if (scanner.isWord("hour")) {
                return Nights.HOUR;
            }
            if (scanner.isWord("open")) {
                return Nights.OPEN;
            }
            if (scanner.isWord("shut")) {
                return Nights.SHUT;
            }
            if (scanner.isWord("wind")) {
                return Nights.WIND;
            }
            if (scanner.isWord("storm")) {
                return Nights.STORM;
            }
            if (scanner.isWord("when")) {
                return Nights.WHEN_FOGGY;
            }
            if (scanner.isWord("loop")) {
                return Nights.LOOP;
            }
            return scanner.isWord("stop") ? Nights.STOP : NONE;
        }

        private boolean readRest(Nights plan, Port port, int sort) {
            switch (sort) {
                case Nights.HOUR:
                    return scanner.takeNumber(plan.numbers, plan.size, 1, 24);
                case Nights.OPEN:
                case Nights.SHUT:
                    return readGateName(plan, port);
                case Nights.WIND:
                    return scanner.takeNumber(plan.numbers, plan.size, 0, DIRECTIONS);
                case Nights.LOOP:
                    return scanner.takeNumber(plan.numbers, plan.size, 1, 99);
                default:
                    return true;
            }
        }

        private boolean readTest(Nights plan, Port port) {
            if (scanner.tryWord("foggy")) {
                return readBoard(plan, port);
            }
            if (scanner.tryWord("open")) {
                plan.sorts[plan.size] = Nights.WHEN_OPEN;
                return readGateName(plan, port);
            }
            plan.sorts[plan.size] = Nights.WHEN_LETS;
            return scanner.takeWord("lets") && readBoard(plan, port) && readCompares(plan)
                    && scanner.takeNumber(plan.limits, plan.size, 0, MOST_FOG);
        }

        private boolean readBoard(Nights plan, Port port) {
            boolean is = scanner.takeNumber(pair, 0, 0, port.wide - 1) && scanner.takeNumber(pair, 1, 0, port.deep - 1);
            if (is) {
                plan.numbers[plan.size] = port.boardAt(pair[0], pair[1]);
            }
            return is;
        }

        private boolean readCompares(Nights plan) {
            if (scanner.kind != Scanner.SIGN || scanner.value == ';') {
                return scanner.refuse(2);
            }
            plan.compares[plan.size] = scanner.value;
            scanner.advance();
            return true;
        }

        private boolean readGateName(Nights plan, Port port) {
            if (!scanner.isName()) {
                return scanner.refuse(2);
            }
            long code = scanner.nameCode();
            for (int i = 0; i < port.gateCount; i++) {
                if (port.gateNames[i] == code) {
                    plan.numbers[plan.size] = i;
                    scanner.advance();
                    return true;
                }
            }
            return scanner.refuse(3);
        }
    }

    /** Lives NIGHTS through and counts what came of them. */
    private static final class Life {
        private static final int MOST_STEPS = 300;
        // Between two STEPS stand few ends, so no run comes near to this.
        private static final int MOST_MOVES = 1000000;

        private final Weather weather;
        private final int[] timesLeft = new int[Nights.PLACES];
        private int drawn;
        boolean isThere;
        int steps;
        private int missed;
        private int hours;
        private int foggyBoards;
        private int storms;
        private boolean isCutOff;

        Life(Weather weather) {
            this.weather = weather;
        }

        int factOf(int what) {
            switch (what) {
                case 0:
                    return missed;
                case 1:
                    return hours;
                case 2:
                    return foggyBoards;
                case 3:
                    return storms;
                default:
                    return isCutOff ? 1 : 0;
            }
        }

        void run(Port port, int seed) {
            drawn = seed;
            isThere = true;
            steps = 0;
            missed = 0;
            hours = 0;
            foggyBoards = 0;
            storms = 0;
            isCutOff = false;
            Nights plan = port.nightsPlan;
            int at = 0;
            for (int i = 0; i < MOST_MOVES && at < plan.size; i++) {
                if (plan.sorts[at] == Nights.ENDING) {
                    at = behindEnd(plan, at);
                } else if (steps >= MOST_STEPS) {
                    isCutOff = true;
                    return;
                } else {
                    steps++;
                    at = doStep(port, at);
                }
            }
        }

        private int behindEnd(Nights plan, int at) {
            int beginning = plan.partners[at];
            if (plan.sorts[beginning] != Nights.LOOP) {
                return at + 1;
            }
            timesLeft[beginning]--;
            return timesLeft[beginning] > 0 ? beginning + 1 : at + 1;
        }

        /** Does a STEP and answers where it goes on. */
        private int doStep(Port port, int at) {
            Nights plan = port.nightsPlan;
            int number = plan.numbers[at];
            switch (plan.sorts[at]) {
                case Nights.HOUR:
                    letPass(port, number);
                    return at + 1;
                case Nights.OPEN:
                    turnGate(port, number, true);
                    return at + 1;
                case Nights.SHUT:
                    turnGate(port, number, false);
                    return at + 1;
                case Nights.WIND:
                    turnWind(port, number);
                    return at + 1;
                case Nights.STORM:
                    rage(port);
                    return at + 1;
                case Nights.STOP:
                    return plan.size;
                case Nights.LOOP:
                    timesLeft[at] = number;
                    return at + 1;
                default:
                    return holds(port, at) ? at + 1 : plan.partners[at] + 1;
            }
        }

        private void letPass(Port port, int number) {
            if (port.hourNow + number > LAST_HOUR) {
                missed++;
                return;
            }
            foggyBoards += weather.passHours(port, number);
            hours += number;
        }

        private void turnGate(Port port, int number, boolean is) {
            if (port.isOpen(number) == is) {
                missed++;
            } else {
                port.setOpen(number, is);
            }
        }

        private void turnWind(Port port, int number) {
            if (port.windNow == number) {
                missed++;
            } else {
                port.windNow = number;
            }
        }

        private void rage(Port port) {
            storms++;
            port.windNow = draw(5);
            for (int i = 0; i < port.gateCount; i++) {
                port.setOpen(i, draw(2) == 1);
            }
        }

        private int draw(int by) {
            drawn = (drawn * 2971 + 10667) % 65536;
            return by > 0 ? drawn / 8 % by : 0;
        }

        private boolean holds(Port port, int at) {
            Nights plan = port.nightsPlan;
            int number = plan.numbers[at];
            if (plan.sorts[at] == Nights.WHEN_FOGGY) {
                return port.isFoggy(port.fogNow, number);
            }
            if (plan.sorts[at] == Nights.WHEN_OPEN) {
                return port.isOpen(number);
            }
            int much = Port.bothKinds(port.fogNow, number);
            if (plan.compares[at] == '<') {
                return much < plan.limits[at];
            }
            return plan.compares[at] == '>' ? much > plan.limits[at] : much == plan.limits[at];
        }
    }
}
