/** Promises 1 to 9: a new object, status and fraction, TRAYS, the tape. */
public final class TraysTest {
    public static void main(String[] args) {
        newObject();
        statusIsOfTheLatestCall();
        fractionStaysTillTheNext();
        trayIsMade();
        writeCuts();
        readTells();
        pourMoves();
        pourRefusesInOrder();
        feedFillsTheTape();
        Kit.end();
    }

    // Promise 1.
    private static void newObject() {
        FogKeys x = new FogKeys();
        Kit.due("NONE", FogKeys.NONE, -1);
        Kit.due("status()", x.status(), 0);
        Kit.due("top()", x.top(), 0);
        Kit.due("bottom()", x.bottom(), 1);
        for (int tray = 0; tray < 4; tray++) {
            Kit.refused("read of a missing tray", x, x.read(tray, 0), 3);
        }
        int[] due = {0, 0, 0, 0, 0, 0, 0, 1, 10, 0, 0, 0, 0, 0};
        for (int what = 0; what < 14; what++) {
            Kit.due("many(" + what + ")", x.many(what), due[what]);
        }
        Kit.refused("live(0)", x, x.live(0), 8);
        Kit.refused("back()", x, x.back(), 8);
        Kit.refused("port(1)", x, x.port(1), 5);
        Kit.refused("watch", x, x.watch(0, 0, 0, 0), 2);
        Kit.due("fault(0)", x.fault(0), -1);
        Kit.due("fault(1)", x.fault(1), -1);
        Kit.due("reach(0)", x.reach(0), 0);
        Kit.refused("reach(1)", x, x.reach(1), 5);
        Kit.due("plan()", x.plan(), 0);
        Kit.due("turnSet(23, 0)", x.turnSet(23, 0), 0);
    }

    // Promise 2.
    private static void statusIsOfTheLatestCall() {
        FogKeys x = new FogKeys();
        x.tray(9, 0, 1);
        Kit.due("status()", x.status(), 1);
        x.fault(0);
        x.feed(1, 2, 3, 4, 5);
        x.top();
        x.bottom();
        Kit.due("status() behind calls that have none", x.status(), 1);
        x.many(0);
        Kit.due("status() behind a good call", x.status(), 0);
        for (int i = 0; i < 50; i++) {
            x.feed(0, 0, 0, 0, 0);
        }
        Kit.due("status() behind a feed too many", x.status(), 0);
    }

    // Promises 3 and 4.
    private static void fractionStaysTillTheNext() {
        FogKeys x = Kit.ported(Kit.BASE);
        Kit.fraction("power(0, 0)", x, x.power(0, 0), 1, 3);
        x.power(0, 3);
        Kit.due("top() behind a refusal", x.top(), 1);
        Kit.due("bottom() behind a refusal", x.bottom(), 3);
        Kit.port(x, "port 1 by 1;gate g at 0 0 lets 1 quota 5;holder a votes 5;holder b votes 1;");
        Kit.fraction("power(0, 1)", x, x.power(0, 1), 0, 1);
        Kit.fraction("power(0, 0)", x, x.power(0, 0), 1, 1);
    }

    // Promise 5.
    private static void trayIsMade() {
        FogKeys x = new FogKeys();
        Kit.due("tray(3, 3, 60)", x.tray(3, 3, 60), true);
        Kit.due("read(3, 59)", x.read(3, 59), 0);
        Kit.refused("read(3, 60)", x, x.read(3, 60), 4);
        Kit.due("tray(0, 0, 0)", x.tray(0, 0, 0), true);
        Kit.refused("read(0, 0)", x, x.read(0, 0), 4);
        Kit.refused("tray(4, 0, 1)", x, x.tray(4, 0, 1), 1);
        Kit.refused("tray(-1, 0, 1)", x, x.tray(-1, 0, 1), 1);
        Kit.refused("tray(0, 4, 61)", x, x.tray(0, 4, 61), 1);
        Kit.refused("tray(0, -1, -1)", x, x.tray(0, -1, -1), 1);
        Kit.refused("tray(0, 0, 61)", x, x.tray(0, 0, 61), 5);
        Kit.refused("tray(0, 0, -1)", x, x.tray(0, 0, -1), 6);
        Kit.refused("tray(0, 0, least)", x, x.tray(0, 0, Integer.MIN_VALUE), 6);
        x.write(3, 59, 8);
        Kit.refused("tray(3, 0, 61)", x, x.tray(3, 0, 61), 5);
        Kit.due("what was there stays", x.read(3, 59), 8);
        Kit.due("tray(3, 3, 60) again", x.tray(3, 3, 60), true);
        Kit.due("all 0 again", x.read(3, 59), 0);
        x.tray(3, 3, 2);
        Kit.refused("shorter", x, x.read(3, 2), 4);
    }

    // Promise 6.
    private static void writeCuts() {
        FogKeys x = new FogKeys();
        long[] due = {-128, -32640, -2147450752L, 0x123480008080L};
        long v = 0x123480008080L;
        for (int sort = 0; sort < 4; sort++) {
            x.tray(sort, sort, 2);
            Kit.due("write", x.write(sort, 1, v), true);
            Kit.due("a number of sort " + sort, x.read(sort, 1), due[sort]);
            Kit.due("the other place", x.read(sort, 0), 0);
        }
        x.write(3, 0, Long.MIN_VALUE);
        Kit.due("the least", x.read(3, 0), Long.MIN_VALUE);
        Kit.refused("write(4, ..)", x, x.write(4, 0, 1), 1);
        Kit.refused("write(0, -1, 1)", x, x.write(0, -1, 1), 4);
        Kit.refused("write(0, 2, 1)", x, x.write(0, 2, 1), 4);
        FogKeys y = new FogKeys();
        Kit.refused("write to a missing tray", y, y.write(2, 99, 1), 3);
        Kit.due("write: status()", x.write(0, 0, 1) ? x.status() : -1, 0);
    }

    // Promise 7.
    private static void readTells() {
        FogKeys x = new FogKeys();
        x.tray(1, 0, 1);
        x.write(1, 0, -1);
        Kit.due("read(1, 0)", x.read(1, 0), -1);
        Kit.due("status tells NONE from -1", x.status(), 0);
        Kit.refused("read(1, 1)", x, x.read(1, 1), 4);
        Kit.refused("read(1, least)", x, x.read(1, Integer.MIN_VALUE), 4);
        Kit.refused("read(2, 0)", x, x.read(2, 0), 3);
        Kit.refused("read(-1, 0)", x, x.read(-1, 0), 1);
    }

    private static FogKeys counted() {
        FogKeys x = new FogKeys();
        x.tray(0, 2, 5);
        x.tray(1, 2, 3);
        for (int i = 0; i < 5; i++) {
            x.write(0, i, i + 1);
        }
        return x;
    }

    private static void row(String what, FogKeys x, int tray, long... due) {
        for (int i = 0; i < due.length; i++) {
            Kit.due(what + " at " + i, x.read(tray, i), due[i]);
        }
    }

    // Promise 8.
    private static void pourMoves() {
        FogKeys x = counted();
        Kit.due("pour(0, 3, 1, 1, 2)", x.pour(0, 3, 1, 1, 2), true);
        row("another tray", x, 1, 0, 4, 5);
        row("the first stays", x, 0, 1, 2, 3, 4, 5);
        Kit.due("pour(0, 0, 0, 1, 4)", x.pour(0, 0, 0, 1, 4), true);
        row("upward within a tray", x, 0, 1, 1, 2, 3, 4);
        Kit.due("pour(0, 2, 0, 0, 3)", x.pour(0, 2, 0, 0, 3), true);
        row("downward within a tray", x, 0, 2, 3, 4, 3, 4);
        Kit.due("pour of none", x.pour(0, 1, 1, 1, 0), true);
        row("none came", x, 1, 0, 4, 5);
        Kit.due("pour of all", x.pour(1, 0, 0, 2, 3), true);
        row("all came", x, 0, 2, 3, 0, 4, 5);
        x.tray(2, 2, 0);
        Kit.due("pour of none from none", x.pour(2, 0, 0, 5, 0), true);
        Kit.due("pour of none to none", x.pour(0, 0, 2, 0, 0), true);
        Kit.refused("pour of one from none", x, x.pour(2, 0, 0, 0, 1), 4);
    }

    private static void pourRefusesInOrder() {
        FogKeys x = counted();
        x.tray(2, 1, 5);
        Kit.refused("no such tray, either", x, x.pour(0, -1, 4, 0, -1), 1);
        Kit.refused("no such tray, either", x, x.pour(-1, -1, 3, 0, -1), 1);
        Kit.refused("missing, either", x, x.pour(3, 9, 2, 9, -1), 3);
        Kit.refused("missing, either", x, x.pour(2, 9, 3, 9, -1), 3);
        Kit.refused("unlike sorts", x, x.pour(0, 9, 2, 9, -1), 11);
        Kit.refused("below 0", x, x.pour(0, 9, 1, 9, -1), 6);
        Kit.refused("too few to give", x, x.pour(0, 3, 1, 0, 3), 4);
        Kit.refused("too few to take", x, x.pour(0, 0, 1, 1, 3), 4);
        Kit.refused("a place below 0", x, x.pour(0, -1, 1, 0, 1), 4);
        Kit.refused("a place below 0", x, x.pour(0, 0, 1, -1, 1), 4);
        Kit.refused("far beyond", x, x.pour(0, Integer.MAX_VALUE, 1, 0, Integer.MAX_VALUE), 4);
        Kit.refused("far beyond", x, x.pour(0, 0, 1, Integer.MAX_VALUE, 1), 4);
        row("nothing came", x, 1, 0, 0, 0);
    }

    // Promise 9.
    private static void feedFillsTheTape() {
        FogKeys x = new FogKeys();
        for (int i = 1; i <= 45; i++) {
            Kit.due("feed " + i, x.feed(0x20202020, 0x20202020, 0x20202020, 0x20202020, 0x20202020), 20 * i);
        }
        Kit.due("feed 46", x.feed(0, 0, 0, 0, 0), -1);
        Kit.due("900 blanks are a port", x.port(900), 0);
        Kit.due("empty then", x.feed(0x706f7274, 0x20312062, 0x7920313b, 0x0a0a0a0a, 0x77696e64), 20);
        Kit.due("feed", x.feed(0x20333b20, 0, 0, 0, -1), 40);
        Kit.due("the highest byte first", x.port(23), 0);
        Kit.due("many(6)", x.many(6), 3);
        x.feed(0x706f7274, 0x20312062, 0x7920313b, 0x20202020, 0xff202020);
        Kit.refused("a byte above 127", x, x.port(20), 10);
        Kit.due("fault(0)", x.fault(0), 1);
        Kit.due("fault(1)", x.fault(1), 16);
    }
}
