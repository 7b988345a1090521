import java.util.ArrayList;
import java.util.List;
import java.util.function.Predicate;
import java.util.function.Supplier;
import java.util.function.ToLongFunction;

/**
 * ==== 5 of the document, by each call: which STATUS it has when, which of several comes first, that a refused call answers
 * NONE or false and changes nothing but STATUS, that a good one has STATUS 0, and that what only tells changes nothing.
 */
public final class RefusalsTest {
    private static final int LEAST = Integer.MIN_VALUE;
    private static final int MOST = Integer.MAX_VALUE;

    public static void main(String[] args) {
        refusedTrays();
        refusedNumbersOfTrays();
        refusedPours();
        refusedPoursInOrder();
        refusedTexts();
        refusedFeeds();
        refusedFacts();
        refusedFog();
        refusedHours();
        refusedGates();
        refusedWindAndFog();
        refusedTows();
        refusedForecasts();
        refusedTurns();
        refusedWays();
        refusedHolders();
        refusedKeys();
        refusedKeysInOrder();
        refusedNights();
        refusedMarks();
        goodCallsHaveStatusNothing();
        someCallsHaveNoStatus();
        whatOnlyTellsChangesNothing();
        faultOfOthersIsNone();
        Kit.end();
    }

    /** Something of everything: a PORT, fog, NIGHTS that were lived, two MARKS, TRAYS but the last, a FRACTION, a tape. */
    private static FogKeys full() {
        FogKeys x = Kit.ported(Kit.BASE);
        x.mark();
        Kit.nights(x, "hour 2;storm;open sea;hour 3;");
        x.live(5);
        x.breathe(1, 1, 0, 30);
        x.breathe(1, 1, 1, 7);
        x.mark();
        x.tow(0, 1, 2);
        x.tray(0, 3, 13);
        x.tray(1, 1, 3);
        x.tray(2, 1, 0);
        x.write(0, 2, Long.MIN_VALUE);
        x.write(1, 0, 110);
        x.write(1, 1, 7);
        x.write(1, 2, 1);
        x.power(0, 0);
        Kit.feedText(x, "port 1 by 2;wind 3; ");
        return x;
    }

    private static FogKeys empty() {
        return new FogKeys();
    }

    private static FogKeys late() {
        FogKeys x = full();
        for (int i = 0; i < 208; i++) {
            x.hour(48);
        }
        x.hour(9999 - x.many(9));
        return x;
    }

    private static FogKeys marked() {
        FogKeys x = full();
        x.mark();
        return x;
    }

    private static void tell(List<Long> told, long v, FogKeys x) {
        told.add(v);
        told.add((long) x.status());
    }

    /** All that can be seen of an object, at last by using up its NIGHTS, its MARKS and its tape. */
    private static List<Long> all(FogKeys x) {
        List<Long> told = new ArrayList<>();
        told.add(x.top());
        told.add(x.bottom());
        told.add((long) x.fault(0));
        told.add((long) x.fault(1));
        for (int what = 0; what < 5; what++) {
            tell(told, x.lived(what), x);
        }
        port(told, x);
        for (int tray = 0; tray < 4; tray++) {
            for (int place = 0; place < 14; place += tray == 0 ? 1 : 3) {
                tell(told, x.read(tray, place), x);
            }
        }
        tell(told, x.live(77), x);
        port(told, x);
        for (int i = 0; i < 4; i++) {
            tell(told, x.back(), x);
            tell(told, x.many(9), x);
            tell(told, x.many(11), x);
        }
        told.add((long) x.feed(0x20202020, 0x20202020, 0x20202020, 0x20202020, 0x20202020));
        tell(told, x.port(20), x);
        tell(told, x.many(1), x);
        tell(told, x.many(6), x);
        return told;
    }

    private static void port(List<Long> told, FogKeys x) {
        for (int what = 0; what < 14; what++) {
            tell(told, x.many(what), x);
        }
        for (int board = 0; board < 12; board++) {
            told.add((long) x.fog(board % 4, board / 4, 0));
            told.add((long) x.fog(board % 4, board / 4, 1));
        }
        for (int i = 0; i < 2; i++) {
            told.add((long) x.ship(i, 0));
            told.add((long) x.ship(i, 1));
            told.add((long) x.gate(i, 2));
        }
        told.add((long) x.votes(2));
        told.add((long) x.trade(2, 4));
    }

    private static void compare(String what, FogKeys x, FogKeys y) {
        List<Long> one = all(x);
        List<Long> other = all(y);
        for (int i = 0; i < one.size(); i++) {
            Kit.due(what + " changes nothing: sight " + i, one.get(i), other.get(i));
        }
    }

    /** Refused with NONE. */
    private static void no(String what, int status, Supplier<FogKeys> made, ToLongFunction<FogKeys> call) {
        FogKeys x = made.get();
        Kit.refused(what, x, call.applyAsLong(x), status);
        compare(what, x, made.get());
    }

    /** Refused with false. */
    private static void not(String what, int status, Supplier<FogKeys> made, Predicate<FogKeys> call) {
        FogKeys x = made.get();
        Kit.refused(what, x, call.test(x), status);
        compare(what, x, made.get());
    }

    // Promise 5: "(at most 60; 5)", "(1; 5; 6)".
    private static void refusedTrays() {
        for (int odd : new int[] {-1, 4, LEAST, MOST}) {
            not("tray " + odd, 1, RefusalsTest::full, x -> x.tray(odd, 0, 1));
            not("sort " + odd, 1, RefusalsTest::full, x -> x.tray(0, odd, 1));
            not("tray ahead of many", 1, RefusalsTest::full, x -> x.tray(odd, 0, 61));
            not("sort ahead of many", 1, RefusalsTest::full, x -> x.tray(0, odd, -1));
        }
        not("many 61", 5, RefusalsTest::full, x -> x.tray(0, 0, 61));
        not("many most", 5, RefusalsTest::full, x -> x.tray(0, 0, MOST));
        not("many -1", 6, RefusalsTest::full, x -> x.tray(0, 0, -1));
        not("many least", 6, RefusalsTest::full, x -> x.tray(3, 0, LEAST));
        for (int many : new int[] {0, 1, 60}) {
            FogKeys x = full();
            Kit.due("tray of " + many, x.tray(0, 0, many), true);
            Kit.due("its last", x.read(0, many - 1), many == 0 ? -1 : 0);
            Kit.refused("behind its last", x, x.read(0, many), 4);
        }
    }

    // Promises 6 and 7: "(1; 3; 4)".
    private static void refusedNumbersOfTrays() {
        for (int odd : new int[] {-1, 4, LEAST, MOST}) {
            not("write to tray " + odd, 1, RefusalsTest::full, x -> x.write(odd, 0, 1));
            no("read of tray " + odd, 1, RefusalsTest::full, x -> x.read(odd, 0));
            not("1 ahead of 4", 1, RefusalsTest::full, x -> x.write(odd, -1, 1));
            no("1 ahead of 4", 1, RefusalsTest::full, x -> x.read(odd, -1));
        }
        for (int place : new int[] {0, -1, 60}) {
            not("write to one that is missing", 3, RefusalsTest::full, x -> x.write(3, place, 1));
            no("read of one that is missing", 3, RefusalsTest::full, x -> x.read(3, place));
        }
        for (int place : new int[] {-1, 3, LEAST, MOST}) {
            not("write to place " + place, 4, RefusalsTest::full, x -> x.write(1, place, 1));
            no("read of place " + place, 4, RefusalsTest::full, x -> x.read(1, place));
        }
        not("write to none", 4, RefusalsTest::full, x -> x.write(2, 0, 1));
        no("read of none", 4, RefusalsTest::full, x -> x.read(2, 0));
    }

    // Promise 8: "1, 3 (either), 11, 6, 4".
    private static void refusedPours() {
        for (int odd : new int[] {-1, 4, LEAST, MOST}) {
            not("from tray " + odd, 1, RefusalsTest::full, x -> x.pour(odd, 0, 1, 0, 1));
            not("to tray " + odd, 1, RefusalsTest::full, x -> x.pour(1, 0, odd, 0, 1));
        }
        not("from one that is missing", 3, RefusalsTest::full, x -> x.pour(3, 0, 1, 0, 1));
        not("to one that is missing", 3, RefusalsTest::full, x -> x.pour(1, 0, 3, 0, 1));
        not("from and to one that is missing", 3, RefusalsTest::full, x -> x.pour(3, 0, 3, 0, 0));
        not("to another sort", 11, RefusalsTest::full, x -> x.pour(0, 0, 1, 0, 1));
        not("from another sort", 11, RefusalsTest::full, x -> x.pour(1, 0, 0, 0, 1));
        not("none to another sort", 11, RefusalsTest::full, x -> x.pour(1, 0, 0, 0, 0));
        not("many -1", 6, RefusalsTest::full, x -> x.pour(1, 0, 1, 0, -1));
        not("many least", 6, RefusalsTest::full, x -> x.pour(1, 0, 1, 0, LEAST));
        int[][] bad = {{-1, 0, 1}, {0, -1, 1}, {LEAST, 0, 1}, {0, LEAST, 1}, {3, 0, 1}, {0, 3, 1}, {1, 0, 3}, {0, 1, 3}, {0, 0, 4},
            {MOST, 0, 1}, {0, MOST, 1}, {0, 0, MOST}, {MOST, MOST, MOST}, {1, 0, MOST}, {-1, 0, 0}, {0, -1, 0}, {4, 0, 0}, {0, 4, 0}};
        for (int[] b : bad) {
            not("places " + b[0] + ", " + b[1] + ", " + b[2], 4, RefusalsTest::full, x -> x.pour(1, b[0], 1, b[1], b[2]));
        }
        not("one from none", 4, RefusalsTest::full, x -> x.pour(2, 0, 1, 0, 1));
        not("one to none", 4, RefusalsTest::full, x -> x.pour(1, 0, 2, 0, 1));
        int[][] good = {{0, 0, 3}, {2, 0, 1}, {0, 2, 1}, {1, 1, 2}, {0, 0, 0}};
        for (int[] g : good) {
            FogKeys x = full();
            Kit.due("places " + g[0] + ", " + g[1] + ", " + g[2], x.pour(1, g[0], 1, g[1], g[2]), true);
            Kit.due("status()", x.status(), 0);
        }
    }

    private static void refusedPoursInOrder() {
        not("1 ahead of 3", 1, RefusalsTest::full, x -> x.pour(3, 0, 4, 0, 1));
        not("1 ahead of 3", 1, RefusalsTest::full, x -> x.pour(4, 0, 3, 0, 1));
        not("1 ahead of 6 and 4", 1, RefusalsTest::full, x -> x.pour(4, -1, 1, -1, -1));
        not("3 ahead of 11", 3, RefusalsTest::full, x -> x.pour(3, 0, 0, 0, 1));
        not("3 ahead of 6", 3, RefusalsTest::full, x -> x.pour(1, 0, 3, 0, -1));
        not("3 ahead of 4", 3, RefusalsTest::full, x -> x.pour(1, 9, 3, 9, 1));
        not("11 ahead of 6", 11, RefusalsTest::full, x -> x.pour(0, 0, 1, 0, -1));
        not("11 ahead of 4", 11, RefusalsTest::full, x -> x.pour(0, 99, 1, 99, 1));
        not("6 ahead of 4", 6, RefusalsTest::full, x -> x.pour(1, 99, 1, -1, -1));
    }

    // Promises 10 and 11: "5", "(5: above 300, too; 10)"; a FAULT (10) is asked behind 5.
    private static void refusedTexts() {
        for (int n : new int[] {-1, 21, 900, 901, LEAST, MOST}) {
            no("port(" + n + ")", 5, RefusalsTest::full, x -> x.port(n));
            no("nights(" + n + ")", 5, RefusalsTest::full, x -> x.nights(n));
        }
        no("port(1) of no tape", 5, RefusalsTest::empty, x -> x.port(1));
        no("nights(1) of no tape", 5, RefusalsTest::empty, x -> x.nights(1));
        Supplier<FogKeys> longTape = () -> {
            FogKeys x = full();
            Kit.feedText(x, "%".repeat(400));
            return x;
        };
        no("nights(301)", 5, longTape, x -> x.nights(301));
        no("nights(420)", 5, longTape, x -> x.nights(420));
        FogKeys x = longTape.get();
        Kit.refused("nights(300)", x, x.nights(300), 10);
        Kit.refused("the tape is empty then", x, x.nights(1), 5);
        FogKeys y = longTape.get();
        Kit.refused("port(420)", y, y.port(420), 10);
        Kit.refused("the tape is empty then", y, y.port(1), 5);
        FogKeys z = full();
        Kit.due("port(20)", z.port(20), 0);
        Kit.refused("the tape is empty then", z, z.port(1), 5);
    }

    // Promise 9.
    private static void refusedFeeds() {
        FogKeys x = full();
        for (int i = 2; i <= 45; i++) {
            Kit.due("feed", x.feed(1, 2, 3, 4, 5), 20 * i);
        }
        x.many(99);
        Kit.due("one too many", x.feed(1, 2, 3, 4, 5), -1);
        Kit.due("it has no status", x.status(), 5);
        Kit.refused("no more than 900", x, x.port(901), 5);
        Kit.due("what was fed first", x.port(20), 0);
        Kit.due("wind", x.many(6), 3);
    }

    // Promises 13 to 17: "(5)", "(2; 5)", "(2)".
    private static void refusedFacts() {
        for (int odd : new int[] {-1, 14, LEAST, MOST}) {
            no("many(" + odd + ")", 5, RefusalsTest::full, x -> x.many(odd));
        }
        for (int odd : new int[] {-1, 2, LEAST, MOST}) {
            no("gate " + odd, 2, RefusalsTest::full, x -> x.gate(odd, 0));
            no("ship " + odd, 2, RefusalsTest::full, x -> x.ship(odd, 0));
            no("2 ahead of 5", 2, RefusalsTest::full, x -> x.gate(odd, 9));
            no("2 ahead of 5", 2, RefusalsTest::full, x -> x.ship(odd, 9));
        }
        for (int odd : new int[] {-1, 3, LEAST, MOST}) {
            no("holder " + odd, 2, RefusalsTest::full, x -> x.votes(odd));
            no("trade " + odd, 2, RefusalsTest::full, x -> x.trade(odd, 0));
            no("2 ahead of 5", 2, RefusalsTest::full, x -> x.trade(odd, -1));
        }
        for (int odd : new int[] {-1, 5, LEAST, MOST}) {
            no("gate(0, " + odd + ")", 5, RefusalsTest::full, x -> x.gate(0, odd));
            no("ship(0, " + odd + ")", 5, RefusalsTest::full, x -> x.ship(0, odd));
        }
        for (int odd : new int[] {-1, 6, LEAST, MOST}) {
            no("trade(0, " + odd + ")", 5, RefusalsTest::full, x -> x.trade(0, odd));
        }
        no("no gates", 2, RefusalsTest::empty, x -> x.gate(0, 0));
        no("no holders", 2, RefusalsTest::empty, x -> x.votes(0));
        no("no trades", 2, RefusalsTest::empty, x -> x.trade(0, 0));
        no("no ships", 2, RefusalsTest::empty, x -> x.ship(0, 0));
    }

    private static final int[][] NO_BOARDS = {{-1, 0}, {4, 0}, {0, -1}, {0, 3}, {LEAST, 0}, {0, LEAST}, {MOST, 0}, {0, MOST}, {MOST, MOST}};

    // Promises 18 to 20: "(2; 5)", "(2)", "(1; 3; 4)".
    private static void refusedFog() {
        for (int[] b : NO_BOARDS) {
            no("fog of no board", 2, RefusalsTest::full, x -> x.fog(b[0], b[1], 0));
            no("2 ahead of 5", 2, RefusalsTest::full, x -> x.fog(b[0], b[1], 2));
            no("foggy of no board", 2, RefusalsTest::full, x -> x.foggy(b[0], b[1]));
        }
        for (int kind : new int[] {-1, 2, LEAST, MOST}) {
            no("kind " + kind, 5, RefusalsTest::full, x -> x.fog(0, 0, kind));
        }
        no("no boards", 2, RefusalsTest::empty, x -> x.fog(0, 0, 0));
        no("no boards", 2, RefusalsTest::empty, x -> x.foggy(0, 0));
        for (int odd : new int[] {-1, 4, LEAST, MOST}) {
            no("copyFog(" + odd + ")", 1, RefusalsTest::full, x -> x.copyFog(odd));
        }
        no("copyFog to one that is missing", 3, RefusalsTest::full, x -> x.copyFog(3));
        no("copyFog to one that is missing", 3, RefusalsTest::empty, x -> x.copyFog(0));
        no("copyFog to three", 4, RefusalsTest::full, x -> x.copyFog(1));
        no("copyFog to none", 4, RefusalsTest::full, x -> x.copyFog(2));
        Supplier<FogKeys> eleven = () -> {
            FogKeys x = full();
            x.tray(3, 3, 11);
            return x;
        };
        no("copyFog to eleven", 4, eleven, x -> x.copyFog(3));
        FogKeys twelve = full();
        twelve.tray(3, 3, 12);
        Kit.due("copyFog to twelve", twelve.copyFog(3), 12);
        Kit.due("both kinds", twelve.read(3, 5), twelve.fog(1, 1, 0) + twelve.fog(1, 1, 1));
        FogKeys none = new FogKeys();
        none.tray(0, 0, 0);
        Kit.due("no boards to none", none.copyFog(0), 0);
    }

    // Promise 21: "(5; 7: above 9,999)".
    private static void refusedHours() {
        for (int hours : new int[] {-1, 0, 49, LEAST, MOST}) {
            no("hour(" + hours + ")", 5, RefusalsTest::full, x -> x.hour(hours));
        }
        FogKeys late = late();
        Kit.due("the last hour", late.many(9), 9999);
        for (int hours = 1; hours <= 48; hours += 47) {
            int h = hours;
            FogKeys x = late();
            int wool = x.many(11);
            Kit.refused("hour(" + h + ")", x, x.hour(h), 7);
            Kit.due("the hour", x.many(9), 9999);
            Kit.due("wool", x.many(11), wool);
        }
        for (int hours : new int[] {0, 49, MOST}) {
            Kit.refused("5 ahead of 7", late, late.hour(hours), 5);
        }
        FogKeys y = full();
        int now = y.many(9);
        Kit.due("hour(1)", y.hour(1), now + 1);
        Kit.due("hour(48)", y.hour(48), now + 49);
    }

    // Promises 22 and 23: "(2; 9: it is so)", "(2; 5: no such set; 9: it is OPEN, or they can't)".
    private static void refusedGates() {
        Supplier<FogKeys> one = () -> {
            FogKeys x = full();
            x.back();
            x.back();
            return x;
        };
        Kit.due("gate 0 alone is open", one.get().many(10), 1);
        for (int odd : new int[] {-1, 2, LEAST, MOST}) {
            not("open(" + odd + ", true)", 2, RefusalsTest::full, x -> x.open(odd, true));
            not("open(" + odd + ", false)", 2, RefusalsTest::full, x -> x.open(odd, false));
            not("openBy(" + odd + ", 7)", 2, RefusalsTest::full, x -> x.openBy(odd, 7));
            not("2 ahead of 5", 2, RefusalsTest::full, x -> x.openBy(odd, -1));
        }
        not("it is open", 9, one, x -> x.open(0, true));
        not("it is shut", 9, one, x -> x.open(1, false));
        for (int odd : new int[] {-1, 8, LEAST, MOST}) {
            not("openBy(1, " + odd + ")", 5, one, x -> x.openBy(1, odd));
            not("5 ahead of 9", 5, one, x -> x.openBy(0, odd));
        }
        not("it is open", 9, one, x -> x.openBy(0, 7));
        for (int set = 0; set < 7; set++) {
            int s = set;
            not("they can't", 9, one, x -> x.openBy(1, s));
        }
        not("no gates", 2, RefusalsTest::empty, x -> x.open(0, true));
        not("no gates", 2, RefusalsTest::empty, x -> x.openBy(0, 0));
    }

    // Promises 24 to 26: "(5; 9: it blows so)", "(2)", "(2; 5)".
    private static void refusedWindAndFog() {
        for (int odd : new int[] {-1, 5, LEAST, MOST}) {
            not("wind(" + odd + ")", 5, RefusalsTest::full, x -> x.wind(odd));
        }
        for (int wind = 0; wind <= 4; wind++) {
            int w = wind;
            not("it blows so", 9, () -> {
                FogKeys x = full();
                x.wind(w);
                return x;
            }, x -> x.wind(w));
        }
        for (int[] b : NO_BOARDS) {
            no("sweep of no board", 2, RefusalsTest::full, x -> x.sweep(b[0], b[1]));
            no("breathe into no board", 2, RefusalsTest::full, x -> x.breathe(b[0], b[1], 0, 1));
            no("2 ahead of 5", 2, RefusalsTest::full, x -> x.breathe(b[0], b[1], 2, 0));
        }
        for (int odd : new int[] {-1, 2, LEAST, MOST}) {
            no("kind " + odd, 5, RefusalsTest::full, x -> x.breathe(0, 0, odd, 1));
        }
        for (int odd : new int[] {-1, 0, 1000, LEAST, MOST}) {
            no("much " + odd, 5, RefusalsTest::full, x -> x.breathe(0, 0, 0, odd));
        }
        FogKeys x = Kit.ported("port 1 by 1;");
        Kit.due("much 1", x.breathe(0, 0, 0, 1), 1);
        Kit.due("much 999, above 999 is lost", x.breathe(0, 0, 0, 999), 999);
        Kit.due("much 998", x.breathe(0, 0, 1, 998), 998);
        Kit.due("just 999", x.breathe(0, 0, 1, 1), 999);
        Kit.due("full", x.breathe(0, 0, 1, 1), 999);
        Kit.due("sweep of both", x.sweep(0, 0), 1998);
        Kit.due("sweep of none", x.sweep(0, 0), 0);
    }

    // Promise 27: "(2; 9: it is there)".
    private static void refusedTows() {
        for (int odd : new int[] {-1, 2, LEAST, MOST}) {
            not("ship " + odd, 2, RefusalsTest::full, x -> x.tow(odd, 0, 0));
        }
        for (int[] b : NO_BOARDS) {
            not("to no board", 2, RefusalsTest::full, x -> x.tow(0, b[0], b[1]));
        }
        not("it is there", 9, RefusalsTest::full, x -> x.tow(0, 1, 2));
        not("it is there", 9, RefusalsTest::full, x -> x.tow(1, 0, 0));
        FogKeys x = full();
        Kit.due("where it wants to", x.tow(0, 3, 0), true);
        Kit.due("where another is", x.tow(0, 0, 0), true);
        Kit.due("the farthest", x.tow(0, 3, 2), true);
    }

    // Promises 28 to 32: "(2; 5)", "(2; 8: not in 48)", "(5)".
    private static void refusedForecasts() {
        for (int[] b : NO_BOARDS) {
            no("later on no board", 2, RefusalsTest::full, x -> x.later(b[0], b[1], 0));
            no("2 ahead of 5", 2, RefusalsTest::full, x -> x.later(b[0], b[1], 49));
            no("lifts on no board", 2, RefusalsTest::full, x -> x.lifts(b[0], b[1]));
            no("comes on no board", 2, RefusalsTest::full, x -> x.comes(b[0], b[1]));
        }
        for (int odd : new int[] {-1, 49, LEAST, MOST}) {
            no("later in " + odd, 5, RefusalsTest::full, x -> x.later(0, 0, odd));
            no("foggyIn(" + odd + ")", 5, RefusalsTest::full, x -> x.foggyIn(odd));
            no("thickest(" + odd + ")", 5, RefusalsTest::full, x -> x.thickest(odd));
        }
        no("thickest(0)", 5, RefusalsTest::full, x -> x.thickest(0));
        no("thickest(0) of no port", 5, RefusalsTest::empty, x -> x.thickest(0));
        no("later on no boards", 2, RefusalsTest::empty, x -> x.later(0, 0, 0));
        no("lifts on no boards", 2, RefusalsTest::empty, x -> x.lifts(0, 0));
        no("comes on no boards", 2, RefusalsTest::empty, x -> x.comes(0, 0));
        Supplier<FogKeys> thick = () -> {
            FogKeys x = Kit.ported("port 2 by 1;thins 0;");
            x.breathe(0, 0, 0, 40);
            return x;
        };
        no("lifts never", 8, thick, x -> x.lifts(0, 0));
        no("comes never", 8, () -> Kit.ported("port 2 by 1;thins 0;"), x -> x.comes(1, 0));
        FogKeys none = new FogKeys();
        Kit.due("foggyIn of no boards", none.foggyIn(48), 0);
        Kit.due("thickest of no boards", none.thickest(48), 1);
        Kit.due("served of no trades", none.served(), 0);
        Kit.due("paid of no trades", none.paid(), 0);
        Kit.due("status()", none.status(), 0);
    }

    // Promises 37 and 38: "(5)".
    private static void refusedTurns() {
        for (int odd : new int[] {-1, 0, 24, LEAST, MOST}) {
            no("turn(" + odd + ")", 5, RefusalsTest::full, x -> x.turn(odd));
            no("turnSet(" + odd + ", 0)", 5, RefusalsTest::full, x -> x.turnSet(odd, 0));
            no("turn(" + odd + ") of no port", 5, RefusalsTest::empty, x -> x.turn(odd));
        }
        for (int odd : new int[] {-1, 2, LEAST, MOST}) {
            no("turnSet(1, " + odd + ")", 5, RefusalsTest::full, x -> x.turnSet(1, odd));
        }
    }

    // Promises 39 to 41: "(2; 5; 8: none)", "(2; 8: not in 48)", "(2; 9: the two are beside each other, or one)".
    private static void refusedWays() {
        for (int[] b : NO_BOARDS) {
            no("way from no board", 2, RefusalsTest::full, x -> x.way(b[0], b[1], 0, 0, 0));
            no("way to no board", 2, RefusalsTest::full, x -> x.way(0, 0, b[0], b[1], 0));
            no("2 ahead of 5", 2, RefusalsTest::full, x -> x.way(0, 0, b[0], b[1], 3));
            no("watch from no board", 2, RefusalsTest::full, x -> x.watch(b[0], b[1], 0, 0));
            no("watch to no board", 2, RefusalsTest::full, x -> x.watch(0, 0, b[0], b[1]));
            no("2 ahead of 9", 2, RefusalsTest::full, x -> x.watch(b[0], b[1], b[0], b[1]));
        }
        no("2 ahead of 9: beside", 2, RefusalsTest::full, x -> x.watch(3, 0, 4, 0));
        Supplier<FogKeys> clear = () -> Kit.ported(Kit.BASE);
        for (int odd : new int[] {-1, 3, LEAST, MOST}) {
            no("road " + odd, 5, RefusalsTest::full, x -> x.way(0, 0, 3, 2, odd));
            no("road " + odd + " to itself", 5, RefusalsTest::full, x -> x.way(0, 0, 0, 0, odd));
            no("ship " + odd, 2, RefusalsTest::full, x -> x.sail(odd));
        }
        no("no way", 8, clear, x -> x.way(0, 0, 3, 2, 1));
        Supplier<FogKeys> stuck = () -> {
            FogKeys x = clear.get();
            x.tow(1, 3, 2);
            return x;
        };
        no("no sail", 8, stuck, x -> x.sail(1));
        no("one", 9, RefusalsTest::full, x -> x.watch(1, 1, 1, 1));
        no("beside, wide", 9, RefusalsTest::full, x -> x.watch(1, 1, 2, 1));
        no("beside, wide", 9, RefusalsTest::full, x -> x.watch(2, 1, 1, 1));
        no("beside, deep", 9, RefusalsTest::full, x -> x.watch(1, 1, 1, 2));
        no("beside, deep", 9, RefusalsTest::full, x -> x.watch(1, 2, 1, 1));
        FogKeys x = full();
        Kit.due("across", x.watch(0, 0, 1, 1) >= 0, true);
        Kit.due("two apart", x.watch(0, 0, 0, 2) >= 0, true);
        no("no boards", 2, RefusalsTest::empty, e -> e.way(0, 0, 0, 0, 0));
        no("no boards", 2, RefusalsTest::empty, e -> e.watch(0, 0, 0, 0));
        no("no ships", 2, RefusalsTest::empty, e -> e.sail(0));
    }

    // Promises 42 to 48: "(2; 5: no such set)", "(2; 8: all can't)", "(5: no such set)".
    private static void refusedHolders() {
        for (int odd : new int[] {-1, 2, LEAST, MOST}) {
            no("together", 2, RefusalsTest::full, x -> x.together(odd, 7));
            no("2 ahead of 5", 2, RefusalsTest::full, x -> x.together(odd, 8));
            no("fewest", 2, RefusalsTest::full, x -> x.fewest(odd));
            no("fewestSet", 2, RefusalsTest::full, x -> x.fewestSet(odd));
            not("power of gate", 2, RefusalsTest::full, x -> x.power(odd, 0));
            no("veto", 2, RefusalsTest::full, x -> x.veto(odd));
            no("idle", 2, RefusalsTest::full, x -> x.idle(odd));
        }
        for (int odd : new int[] {-1, 3, LEAST, MOST}) {
            not("power of holder", 2, RefusalsTest::full, x -> x.power(0, odd));
        }
        for (int odd : new int[] {-1, 8, LEAST, MOST}) {
            no("together", 5, RefusalsTest::full, x -> x.together(0, odd));
            no("reach", 5, RefusalsTest::full, x -> x.reach(odd));
        }
        Supplier<FogKeys> weak = () -> Kit.ported("port 1 by 1;gate a at 0 0 lets 1 quota 10;gate b at 0 0 lets 1 quota 9;holder c votes 5;"
            + "holder d votes 4;");
        no("all can't", 8, weak, x -> x.fewest(0));
        no("all can't", 8, weak, x -> x.fewestSet(0));
        not("all can't", 8, weak, x -> x.power(0, 0));
        no("all can't", 8, weak, x -> x.veto(0));
        no("all can't", 8, weak, x -> x.idle(0));
        not("2 ahead of 8", 2, weak, x -> x.power(0, 2));
        Kit.due("all just can", weak.get().fewest(1), 2);
        no("no holders: a set of one", 5, () -> Kit.ported("port 1 by 1;gate a at 0 0 lets 1;"), x -> x.together(0, 1));
        no("no holders: a set of one", 5, RefusalsTest::empty, x -> x.reach(1));
        Kit.due("no holders: the set of none", empty().reach(0), 0);
        Kit.due("no holders: the set of none", Kit.ported("port 1 by 1;gate a at 0 0 lets 1;").together(0, 0), 0);
    }

    // Promises 49 to 52: "(1; 3; 4; 5: n, a number that is no try, too)", "2: no such KEY", "8: not known, no way".
    private static void refusedKeys() {
        for (int odd : new int[] {-1, 4, LEAST, MOST}) {
            no("fits", 1, RefusalsTest::full, x -> x.fits(odd, 0));
            no("known", 1, RefusalsTest::full, x -> x.known(0, odd, 0));
            no("next", 1, RefusalsTest::full, x -> x.next(odd, 0));
            not("chance", 1, RefusalsTest::full, x -> x.chance(0, 0, odd, 0));
        }
        for (int odd : new int[] {-1, 2, LEAST, MOST}) {
            no("known of key " + odd, 2, RefusalsTest::full, x -> x.known(odd, 1, 0));
            not("chance of key " + odd, 2, RefusalsTest::full, x -> x.chance(odd, 0, 1, 0));
            not("chance of gate " + odd, 2, RefusalsTest::full, x -> x.chance(0, odd, 1, 0));
        }
        no("fits of a missing one", 3, RefusalsTest::full, x -> x.fits(3, 0));
        no("known of a missing one", 3, RefusalsTest::full, x -> x.known(0, 3, 0));
        no("next of a missing one", 3, RefusalsTest::full, x -> x.next(3, 0));
        not("chance of a missing one", 3, RefusalsTest::full, x -> x.chance(0, 0, 3, 0));
        for (int n : new int[] {4, 60, 61, MOST}) {
            no("fits by " + n, 4, RefusalsTest::full, x -> x.fits(1, n));
            no("known by " + n, 4, RefusalsTest::full, x -> x.known(0, 1, n));
            no("next by " + n, 4, RefusalsTest::full, x -> x.next(1, n));
            not("chance by " + n, 4, RefusalsTest::full, x -> x.chance(0, 0, 1, n));
        }
        no("fits by one of none", 4, RefusalsTest::full, x -> x.fits(2, 1));
        // The second number is 7: no try.
        for (int n : new int[] {-1, LEAST, 2, 3}) {
            no("fits by " + n, 5, RefusalsTest::full, x -> x.fits(1, n));
            no("known by " + n, 5, RefusalsTest::full, x -> x.known(0, 1, n));
            no("next by " + n, 5, RefusalsTest::full, x -> x.next(1, n));
            not("chance by " + n, 5, RefusalsTest::full, x -> x.chance(0, 0, 1, n));
        }
        no("not known", 8, RefusalsTest::full, x -> x.known(0, 1, 0));
        no("one way", 8, RefusalsTest::full, x -> x.next(1, 1));
        Kit.due("known by one", full().known(1, 1, 1), 0);
        Supplier<FogKeys> noWay = () -> {
            FogKeys x = full();
            x.write(1, 1, 111);
            x.write(1, 0, 101);
            return x;
        };
        Kit.due("no way", noWay.get().fits(1, 2), 0);
        no("no way: not known", 8, noWay, x -> x.known(0, 1, 2));
        no("no way: no next", 8, noWay, x -> x.next(1, 2));
        not("no way: no chance", 8, noWay, x -> x.chance(0, 0, 1, 2));
    }

    private static void refusedKeysInOrder() {
        no("1 ahead of 2", 1, RefusalsTest::full, x -> x.known(9, 4, 99));
        not("1 ahead of 2", 1, RefusalsTest::full, x -> x.chance(9, 9, 4, 99));
        no("2 ahead of 3", 2, RefusalsTest::full, x -> x.known(2, 3, 0));
        not("2 ahead of 3", 2, RefusalsTest::full, x -> x.chance(0, 2, 3, 0));
        no("2 ahead of 4", 2, RefusalsTest::full, x -> x.known(2, 1, 9));
        no("2 ahead of 5", 2, RefusalsTest::full, x -> x.known(-1, 1, -1));
        not("2 ahead of 5", 2, RefusalsTest::full, x -> x.chance(-1, 0, 1, 2));
        no("3 ahead of 4", 3, RefusalsTest::full, x -> x.fits(3, 61));
        no("3 ahead of 5", 3, RefusalsTest::full, x -> x.fits(3, -1));
        no("3 ahead of 4", 3, RefusalsTest::full, x -> x.next(3, 61));
        not("3 ahead of 5", 3, RefusalsTest::full, x -> x.chance(0, 0, 3, -1));
        no("4 ahead of 5", 4, RefusalsTest::full, x -> x.fits(1, 61));
        no("4 ahead of a number that is no try", 4, RefusalsTest::full, x -> x.fits(1, 4));
        Supplier<FogKeys> bad = () -> {
            FogKeys x = full();
            x.write(1, 0, 111);
            x.write(1, 1, 101);
            x.write(1, 2, 2);
            return x;
        };
        no("no way with two", 8, bad, x -> x.known(0, 1, 2));
        no("5 ahead of 8", 5, bad, x -> x.known(0, 1, 3));
        no("5 ahead of 8", 5, bad, x -> x.next(1, 3));
        not("5 ahead of 8", 5, bad, x -> x.chance(0, 0, 1, 3));
    }

    // Promises 53 to 55: "(5; 8: no NIGHTS)", "(5; 8: there was none)", "(5: the last above 9,999, too; 8)".
    private static void refusedNights() {
        Supplier<FogKeys> none = () -> Kit.ported(Kit.BASE);
        for (int odd : new int[] {-1, 10000, LEAST, MOST}) {
            no("live(" + odd + ")", 5, RefusalsTest::full, x -> x.live(odd));
            not("mean(" + odd + ", 1)", 5, RefusalsTest::full, x -> x.mean(odd, 1));
            no("5 ahead of 8", 5, none, x -> x.live(odd));
            not("5 ahead of 8", 5, none, x -> x.mean(odd, 1));
        }
        no("no nights", 8, none, x -> x.live(0));
        not("no nights", 8, none, x -> x.mean(0, 1));
        no("no port", 8, RefusalsTest::empty, x -> x.live(9999));
        not("no port", 8, RefusalsTest::empty, x -> x.mean(9999, 1));
        for (int odd : new int[] {-1, 5, LEAST, MOST}) {
            no("lived(" + odd + ")", 5, RefusalsTest::full, x -> x.lived(odd));
            no("5 ahead of 8", 5, none, x -> x.lived(odd));
        }
        no("none was lived", 8, none, x -> x.lived(0));
        no("none was lived", 8, RefusalsTest::empty, x -> x.lived(4));
        for (int odd : new int[] {-1, 0, 21, LEAST, MOST}) {
            not("mean(0, " + odd + ")", 5, RefusalsTest::full, x -> x.mean(0, odd));
            not("5 ahead of 8", 5, none, x -> x.mean(0, odd));
        }
        not("the last above 9,999", 5, RefusalsTest::full, x -> x.mean(9999, 2));
        not("the last above 9,999", 5, RefusalsTest::full, x -> x.mean(9981, 20));
        not("far above 9,999", 5, RefusalsTest::full, x -> x.mean(MOST, 2));
        not("far above 9,999", 5, RefusalsTest::full, x -> x.mean(MOST, 20));
        not("far above 9,999", 5, RefusalsTest::full, x -> x.mean(MOST - 18, 20));
        not("5 ahead of 8", 5, none, x -> x.mean(9981, 20));
    }

    // Promises 56 and 57: "(7)", "(8)".
    private static void refusedMarks() {
        no("a fourth mark", 7, RefusalsTest::marked, FogKeys::mark);
        no("no mark", 8, RefusalsTest::empty, FogKeys::back);
        no("no mark", 8, () -> Kit.ported(Kit.BASE), FogKeys::back);
    }

    private static void good(String what, ToLongFunction<FogKeys> call) {
        FogKeys x = full();
        x.many(99);
        Kit.due("status() ahead", x.status(), 5);
        long got = call.applyAsLong(x);
        Kit.due(what + ": status()", x.status(), 0);
        Kit.due(what + " is not refused", got == FogKeys.NONE, false);
    }

    private static long flag(boolean got) {
        return got ? 1 : FogKeys.NONE;
    }

    // "0 else."
    private static void goodCallsHaveStatusNothing() {
        good("tray", x -> flag(x.tray(3, 0, 9)));
        good("write", x -> flag(x.write(1, 0, 9)));
        good("read", x -> x.read(1, 0));
        good("pour", x -> flag(x.pour(1, 0, 1, 1, 2)));
        good("port", x -> x.port(20));
        good("nights", x -> x.nights(0));
        good("many", x -> x.many(0));
        good("gate", x -> x.gate(0, 0));
        good("votes", x -> x.votes(0));
        good("trade", x -> x.trade(0, 0));
        good("ship", x -> x.ship(0, 0));
        good("fog", x -> x.fog(0, 0, 0));
        good("foggy", x -> x.foggy(0, 0));
        good("copyFog", x -> x.copyFog(0));
        good("hour", x -> x.hour(1));
        good("open", x -> flag(x.open(0, (x.many(10) & 1) == 0)));
        good("openBy", x -> {
            x.open(1, false);
            x.many(99);
            return flag(x.openBy(1, 7));
        });
        good("wind", x -> flag(x.wind(x.many(6) == 4 ? 3 : 4)));
        good("sweep", x -> x.sweep(0, 0));
        good("breathe", x -> x.breathe(0, 0, 0, 1));
        good("tow", x -> flag(x.tow(0, 0, 0)));
        good("later", x -> x.later(0, 0, 0));
        good("lifts", x -> x.lifts(3, 0));
        good("comes", x -> x.comes(1, 1));
        good("foggyIn", x -> x.foggyIn(0));
        good("thickest", x -> x.thickest(1));
        good("served", FogKeys::served);
        good("paid", FogKeys::paid);
        good("plan", FogKeys::plan);
        good("planSet", FogKeys::planSet);
        good("turn", x -> x.turn(1));
        good("turnSet", x -> x.turnSet(1, 1));
        good("way", x -> x.way(0, 0, 3, 2, 2));
        good("sail", x -> {
            x.tow(0, 3, 0);
            x.many(99);
            return x.sail(0);
        });
        good("watch", x -> x.watch(0, 0, 3, 2));
        good("together", x -> x.together(0, 0));
        good("fewest", x -> x.fewest(0));
        good("fewestSet", x -> x.fewestSet(0));
        good("power", x -> flag(x.power(0, 0)));
        good("veto", x -> x.veto(0));
        good("idle", x -> x.idle(0));
        good("reach", x -> x.reach(0));
        good("fits", x -> x.fits(1, 0));
        good("known", x -> x.known(0, 1, 1));
        good("next", x -> x.next(1, 0));
        good("chance", x -> flag(x.chance(0, 0, 1, 0)));
        good("live", x -> x.live(0));
        good("lived", x -> x.lived(0));
        good("mean", x -> flag(x.mean(0, 1)));
        good("mark", FogKeys::mark);
        good("back", FogKeys::back);
    }

    // "status(), fault(), feed(), top(), bottom() have none."
    private static void someCallsHaveNoStatus() {
        for (int status : new int[] {0, 2, 5}) {
            FogKeys x = full();
            x.gate(status == 2 ? 9 : 0, status == 5 ? 9 : 0);
            Kit.due("status()", x.status(), status);
            for (int what : new int[] {LEAST, -1, 0, 1, 2, MOST}) {
                x.fault(what);
                Kit.due("fault(" + what + ") has none", x.status(), status);
            }
            x.top();
            Kit.due("top() has none", x.status(), status);
            x.bottom();
            Kit.due("bottom() has none", x.status(), status);
            for (int i = 0; i < 50; i++) {
                x.feed(LEAST, MOST, -1, 0, 1);
                Kit.due("feed() has none", x.status(), status);
            }
            Kit.due("status() has none", x.status(), status);
        }
    }

    private static void same(String what, ToLongFunction<FogKeys> call) {
        FogKeys x = full();
        long first = call.applyAsLong(x);
        Kit.due(what + " again", call.applyAsLong(x), first);
        compare(what, x, full());
    }

    // What comes, what could be done and what could have been is told; nothing is done.
    private static void whatOnlyTellsChangesNothing() {
        same("read", x -> x.read(1, 1));
        same("later", x -> x.later(1, 1, 48));
        same("lifts", x -> x.lifts(1, 1));
        same("comes", x -> x.comes(3, 0));
        same("foggyIn", x -> x.foggyIn(48));
        same("thickest", x -> x.thickest(48));
        same("served", FogKeys::served);
        same("paid", FogKeys::paid);
        same("plan", FogKeys::plan);
        same("planSet", FogKeys::planSet);
        same("turn", x -> x.turn(3));
        same("turnSet", x -> x.turnSet(3, 1));
        same("way", x -> x.way(0, 0, 3, 2, 2));
        same("sail", x -> x.sail(0));
        same("watch", x -> x.watch(0, 0, 3, 2));
        same("together", x -> x.together(1, 7));
        same("fewest", x -> x.fewest(1));
        same("fewestSet", x -> x.fewestSet(1));
        same("veto", x -> x.veto(1));
        same("idle", x -> x.idle(1));
        same("reach", x -> x.reach(7));
        same("fits", x -> x.fits(1, 1));
        same("known", x -> x.known(0, 1, 1));
        same("next", x -> x.next(1, 0));
        same("power, but for the fraction", x -> x.power(1, 0) && x.power(0, 0) ? 1 : 0);
        same("chance, but for the fraction", x -> x.chance(0, 0, 1, 0) && x.power(0, 0) ? 1 : 0);
        same("mean, but for the fraction", x -> x.mean(3, 20) && x.power(0, 0) ? 1 : 0);
    }

    // Promise 12: "what 0: the FAULT (0 without one), 1: its place (NONE without). NONE for others, and ahead of any."
    private static void faultOfOthersIsNone() {
        FogKeys x = new FogKeys();
        for (int what : new int[] {LEAST, -1, 0, 1, 2, MOST}) {
            Kit.due("ahead of any: fault(" + what + ")", x.fault(what), -1);
        }
        x.port(1);
        x.nights(-1);
        Kit.due("a call with status 5 is none of these", x.fault(0), -1);
        FogKeys y = new FogKeys();
        Kit.port(y, "port 1 by 1;");
        Kit.due("without one: fault(0)", y.fault(0), 0);
        Kit.due("without one: fault(1)", y.fault(1), -1);
        Kit.nights(y, "stop;go;");
        Kit.due("nights: fault(0)", y.fault(0), 2);
        Kit.due("nights: fault(1)", y.fault(1), 5);
        for (int what : new int[] {LEAST, -1, 2, MOST}) {
            Kit.due("of others: fault(" + what + ")", y.fault(what), -1);
        }
        y.port(1);
        y.nights(301);
        Kit.due("a call with status 5 tells none: fault(0)", y.fault(0), 2);
        Kit.due("a call with status 5 tells none: fault(1)", y.fault(1), 5);
        y.mark();
        y.back();
        y.hour(1);
        Kit.due("of the latest still", y.fault(0), 2);
        Kit.nights(y, "stop;");
        Kit.due("without one again: fault(0)", y.fault(0), 0);
        Kit.due("without one again: fault(1)", y.fault(1), -1);
        Kit.port(y, "%");
        Kit.due("of the latest, a port", y.fault(0), 1);
        Kit.due("at its first byte", y.fault(1), 0);
    }
}
