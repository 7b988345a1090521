/** Promises 21 to 34: what is done, and what comes. */
public final class DoneTest {
    public static void main(String[] args) {
        hoursLetFogIn();
        hoursDriftWithoutWind();
        hoursDriftByWind();
        hoursMeetAndThin();
        hoursHaveAnEnd();
        gatesOpen();
        gatesOpenByHolders();
        windTurns();
        boardsAreSwept();
        boardsAreBreathedInto();
        shipsAreTowed();
        forecastsChangeNothing();
        liftsAndComes();
        foggiestHours();
        tradesAreServed();
        Kit.end();
    }

    private static void board(String what, FogKeys x, int column, int row, int wool, int answers) {
        Kit.due(what + ": wool at " + column + " " + row, x.fog(column, row, 0), wool);
        Kit.due(what + ": answers at " + column + " " + row, x.fog(column, row, 1), answers);
    }

    // Promise 21.
    private static void hoursLetFogIn() {
        FogKeys x = Kit.ported("port 1 by 1;gate a at 0 0 lets 40 open;gate b at 0 0 lets 5;thins 0;");
        Kit.due("hour(1)", x.hour(1), 1);
        board("one gate", x, 0, 0, 40, 0);
        x.open(1, true);
        Kit.due("hour(2)", x.hour(2), 3);
        board("two gates", x, 0, 0, 130, 0);
        Kit.due("hour(48)", x.hour(48), 51);
        board("no more than 999", x, 0, 0, 999, 0);
    }

    private static void hoursDriftWithoutWind() {
        FogKeys x = Kit.ported("port 3 by 3;thins 0;");
        x.breathe(1, 1, 0, 87);
        x.breathe(0, 0, 1, 15);
        x.hour(1);
        board("the middle gives to four", x, 1, 1, 47, 0);
        board("side by side", x, 0, 1, 9, 0);
        board("one behind the other", x, 1, 2, 10, 0);
        board("the corner gives to two", x, 0, 0, 0, 13);
        board("both came there and met", x, 1, 0, 9, 0);
        board("not across", x, 2, 2, 0, 0);
        Kit.due("nothing is lost but what met: wool", x.many(11), 85);
        Kit.due("nothing is lost but what met: answers", x.many(12), 13);
        FogKeys full = Kit.ported("port 2 by 2;thins 0;");
        for (int i = 0; i < 4; i++) {
            full.breathe(i % 2, i / 2, 0, 999);
        }
        full.hour(1);
        Kit.due("all at once: full boards stay full", full.many(11), 4 * 999);
    }

    private static void hoursDriftByWind() {
        int[][] to = {{1, 1}, {2, 1}, {1, 2}, {0, 1}, {1, 0}};
        for (int wind = 1; wind <= 4; wind++) {
            FogKeys x = Kit.ported("port 3 by 3;thins 0;wind " + wind + ";");
            x.breathe(1, 1, 0, 19);
            x.hour(1);
            board("wind " + wind, x, 1, 1, 15, 0);
            board("wind " + wind, x, to[wind][0], to[wind][1], 4, 0);
            x.hour(1);
            board("out of the port it is lost, wind " + wind, x, to[wind][0], to[wind][1], 6, 0);
            Kit.due("wool", x.many(11), 18);
        }
        FogKeys full = Kit.ported("port 3 by 1;thins 0;wind 3;");
        for (int i = 0; i < 3; i++) {
            full.breathe(i, 0, 1, 999);
        }
        full.hour(1);
        Kit.due("the last gives alone", full.fog(2, 0, 1), 750);
        Kit.due("the others give and take", full.fog(0, 0, 1) + full.fog(1, 0, 1), 2 * 999);
    }

    private static void hoursMeetAndThin() {
        FogKeys x = Kit.ported("port 1 by 1;thins 3;");
        x.breathe(0, 0, 0, 20);
        x.breathe(0, 0, 1, 30);
        board("both kinds stay till the next hour", x, 0, 0, 20, 30);
        x.hour(1);
        board("met", x, 0, 0, 0, 7);
        x.hour(2);
        board("thinned", x, 0, 0, 0, 1);
        x.hour(1);
        board("0 at least", x, 0, 0, 0, 0);
        FogKeys gates = Kit.ported("port 1 by 1;gate a at 0 0 lets 9 open;gate b at 0 0 lets 5 answers open;thins 1;");
        gates.hour(1);
        board("what was let in meets", gates, 0, 0, 3, 0);
    }

    private static void hoursHaveAnEnd() {
        FogKeys x = new FogKeys();
        Kit.refused("hour(0)", x, x.hour(0), 5);
        Kit.refused("hour(-1)", x, x.hour(-1), 5);
        Kit.refused("hour(49)", x, x.hour(49), 5);
        Kit.refused("hour(most)", x, x.hour(Integer.MAX_VALUE), 5);
        for (int i = 1; i <= 208; i++) {
            x.hour(48);
        }
        Kit.due("many(9)", x.many(9), 9984);
        Kit.refused("hour(16)", x, x.hour(16), 7);
        Kit.refused("hour(49)", x, x.hour(49), 5);
        Kit.due("hour(15)", x.hour(15), 9999);
        Kit.refused("hour(1)", x, x.hour(1), 7);
        Kit.due("many(9)", x.many(9), 9999);
        Kit.due("forecasts go beyond", x.foggyIn(48), 0);
    }

    // Promise 22.
    private static void gatesOpen() {
        FogKeys x = Kit.ported(Kit.BASE);
        Kit.due("open(1, true)", x.open(1, true), true);
        Kit.due("many(10)", x.many(10), 3);
        Kit.refused("open(1, true)", x, x.open(1, true), 9);
        Kit.due("open(0, false)", x.open(0, false), true);
        Kit.due("status()", x.status(), 0);
        Kit.due("many(10)", x.many(10), 2);
        Kit.refused("open(0, false)", x, x.open(0, false), 9);
        Kit.refused("open(2, true)", x, x.open(2, true), 2);
        Kit.refused("open(-1, false)", x, x.open(-1, false), 2);
    }

    // Promise 23.
    private static void gatesOpenByHolders() {
        FogKeys x = Kit.ported(Kit.BASE);
        Kit.refused("openBy(1, 3)", x, x.openBy(1, 3), 9);
        Kit.due("openBy(1, 7)", x.openBy(1, 7), true);
        Kit.due("many(10)", x.many(10), 3);
        Kit.refused("openBy(1, 7)", x, x.openBy(1, 7), 9);
        x.open(0, false);
        Kit.refused("openBy(0, 1)", x, x.openBy(0, 1), 9);
        Kit.refused("openBy(0, 0)", x, x.openBy(0, 0), 9);
        Kit.refused("openBy(0, 8)", x, x.openBy(0, 8), 5);
        Kit.refused("openBy(0, -1)", x, x.openBy(0, -1), 5);
        Kit.refused("openBy(1, 8), open", x, x.openBy(1, 8), 5);
        Kit.refused("openBy(2, 9)", x, x.openBy(2, 9), 2);
        Kit.due("openBy(0, 6): just enough", x.openBy(0, 6), true);
    }

    // Promise 24.
    private static void windTurns() {
        FogKeys x = Kit.ported(Kit.BASE);
        Kit.refused("wind(0)", x, x.wind(0), 9);
        Kit.due("wind(4)", x.wind(4), true);
        Kit.due("many(6)", x.many(6), 4);
        Kit.refused("wind(4)", x, x.wind(4), 9);
        Kit.refused("wind(5)", x, x.wind(5), 5);
        Kit.refused("wind(-1)", x, x.wind(-1), 5);
        Kit.due("wind(0)", x.wind(0), true);
    }

    // Promise 25.
    private static void boardsAreSwept() {
        FogKeys x = Kit.ported("port 2 by 2;");
        x.breathe(1, 0, 0, 5);
        x.breathe(1, 0, 1, 7);
        x.breathe(0, 1, 0, 9);
        Kit.due("sweep(1, 0)", x.sweep(1, 0), 12);
        board("swept", x, 1, 0, 0, 0);
        board("not swept", x, 0, 1, 9, 0);
        Kit.due("sweep(1, 0)", x.sweep(1, 0), 0);
        Kit.due("status()", x.status(), 0);
        Kit.refused("sweep(2, 0)", x, x.sweep(2, 0), 2);
        Kit.refused("sweep(0, -1)", x, x.sweep(0, -1), 2);
    }

    // Promise 26.
    private static void boardsAreBreathedInto() {
        FogKeys x = Kit.ported("port 2 by 2;");
        Kit.due("breathe", x.breathe(1, 0, 1, 990), 990);
        Kit.due("of the other kind", x.breathe(1, 0, 0, 3), 3);
        Kit.due("no more than 999", x.breathe(1, 0, 1, 10), 999);
        Kit.due("fog", x.fog(1, 0, 1), 999);
        Kit.due("much 999", x.breathe(0, 0, 0, 999), 999);
        Kit.refused("much 0", x, x.breathe(0, 0, 0, 0), 5);
        Kit.refused("much 1000", x, x.breathe(0, 0, 0, 1000), 5);
        Kit.refused("much -1", x, x.breathe(0, 0, 0, -1), 5);
        Kit.refused("kind 2", x, x.breathe(0, 0, 2, 1), 5);
        Kit.refused("kind -1", x, x.breathe(0, 0, -1, 1), 5);
        Kit.refused("no board, kind 2", x, x.breathe(2, 0, 2, 1), 2);
    }

    // Promise 27.
    private static void shipsAreTowed() {
        FogKeys x = Kit.ported(Kit.BASE);
        Kit.due("tow(1, 3, 2)", x.tow(1, 3, 2), true);
        Kit.due("ship(1, 0)", x.ship(1, 0), 3);
        Kit.due("ship(1, 1)", x.ship(1, 1), 2);
        Kit.due("ship(1, 2)", x.ship(1, 2), 1);
        Kit.refused("tow(1, 3, 2)", x, x.tow(1, 3, 2), 9);
        Kit.due("the same column", x.tow(1, 3, 1), true);
        Kit.due("the same row", x.tow(1, 0, 1), true);
        Kit.refused("tow(2, 0, 0)", x, x.tow(2, 0, 0), 2);
        Kit.refused("tow(0, 4, 0)", x, x.tow(0, 4, 0), 2);
        Kit.refused("tow(0, 0, 3)", x, x.tow(0, 0, 3), 2);
    }

    // Promises 28 to 32.
    private static void forecastsChangeNothing() {
        FogKeys x = Kit.ported(Kit.BASE);
        Kit.due("later(0, 0, 0)", x.later(0, 0, 0), 0);
        Kit.due("later(0, 0, 1)", x.later(0, 0, 1), 11);
        Kit.due("later(0, 0, 2)", x.later(0, 0, 2), 20);
        Kit.due("foggyIn(0)", x.foggyIn(0), 0);
        Kit.due("foggyIn(1)", x.foggyIn(1), 1);
        Kit.due("foggyIn(4)", x.foggyIn(4), 3);
        x.later(0, 0, 48);
        Kit.due("later(.., 48): status()", x.status(), 0);
        x.foggyIn(48);
        x.thickest(48);
        x.lifts(0, 0);
        x.comes(3, 2);
        x.plan();
        x.turn(5);
        x.sail(0);
        Kit.due("no fog has come", x.many(11) + x.many(12), 0);
        Kit.due("no hour has gone", x.many(9), 0);
        Kit.due("gates as they were", x.many(10), 1);
        x.breathe(1, 1, 0, 4);
        x.breathe(1, 1, 1, 5);
        Kit.due("both kinds now", x.later(1, 1, 0), 9);
        Kit.refused("later(0, 0, 49)", x, x.later(0, 0, 49), 5);
        Kit.refused("later(0, 0, -1)", x, x.later(0, 0, -1), 5);
        Kit.refused("later(4, 0, 49)", x, x.later(4, 0, 49), 2);
        Kit.refused("foggyIn(-1)", x, x.foggyIn(-1), 5);
        Kit.refused("foggyIn(49)", x, x.foggyIn(49), 5);
        int now = x.foggyIn(48);
        x.hour(48);
        Kit.due("as it was foretold", x.many(13), now);
    }

    private static void liftsAndComes() {
        FogKeys x = Kit.ported("port 1 by 1;gate a at 0 0 lets 3;foggy 10;thins 1;");
        Kit.due("lifts now", x.lifts(0, 0), 0);
        Kit.refused("comes never", x, x.comes(0, 0), 8);
        x.open(0, true);
        Kit.due("comes", x.comes(0, 0), 5);
        x.open(0, false);
        x.breathe(0, 0, 0, 57);
        Kit.due("comes now", x.comes(0, 0), 0);
        Kit.due("lifts at the last hour", x.lifts(0, 0), 48);
        x.breathe(0, 0, 0, 1);
        Kit.refused("lifts too late", x, x.lifts(0, 0), 8);
        Kit.refused("lifts(1, 0)", x, x.lifts(1, 0), 2);
        Kit.refused("comes(0, 1)", x, x.comes(0, 1), 2);
        FogKeys slow = Kit.ported("port 1 by 1;gate a at 0 0 lets 2 open;foggy 48;thins 1;");
        Kit.due("comes at the last hour", slow.comes(0, 0), 48);
        slow.port(0);
        Kit.port(slow, "port 1 by 1;gate a at 0 0 lets 2 open;foggy 49;thins 1;");
        Kit.refused("comes too late", slow, slow.comes(0, 0), 8);
    }

    private static void foggiestHours() {
        FogKeys x = Kit.ported("port 3 by 1;thins 1;foggy 4;wind 1;");
        x.breathe(0, 0, 0, 20);
        // 15 5 0, less 1: 14 4 0; then 11 6 1: 10 5 0; then 8 6 1: 7 5 0; 6 5 1: 5 4 0; 4 4 1: 3 3 0.
        Kit.due("the most, of several the first", x.thickest(48), 1);
        Kit.due("thickest(1)", x.thickest(1), 1);
        Kit.due("foggyIn(1)", x.foggyIn(1), 2);
        Kit.due("foggyIn(4)", x.foggyIn(4), 2);
        Kit.due("foggyIn(5)", x.foggyIn(5), 0);
        FogKeys y = Kit.ported("port 2 by 1;gate a at 0 0 lets 8 open;thins 0;foggy 3;wind 1;");
        // 6 2; then 11 5.
        Kit.due("thickest(1)", y.thickest(1), 1);
        Kit.due("thickest(9)", y.thickest(9), 2);
        Kit.due("the last one", y.thickest(2), 2);
        y.hour(5);
        Kit.due("counted from now on", y.thickest(9), 1);
        Kit.refused("thickest(0)", y, y.thickest(0), 5);
        Kit.refused("thickest(49)", y, y.thickest(49), 5);
    }

    // Promises 33 and 34.
    private static void tradesAreServed() {
        FogKeys x = Kit.ported("port 1 by 1;gate a at 0 0 lets 3 open;thins 1;foggy 10;"
            + "trade p at 0 0 from 5 to 24 pays 1;trade q at 0 0 from 4 to 5 pays 2;trade r at 0 0 from 1 to 4 pays 4 clear;"
            + "trade s at 0 0 from 4 to 5 pays 8 clear;trade t at 0 0 from 24 to 24 pays 16;");
        Kit.due("served()", x.served(), 21);
        Kit.due("paid()", x.paid(), 21);
        x.hour(1);
        Kit.due("counted from now on: served()", x.served(), 19);
        Kit.due("paid()", x.paid(), 19);
        x.open(0, false);
        Kit.due("gates as they are", x.served(), 12);
        FogKeys late = Kit.ported("port 1 by 1;thins 1;foggy 10;trade a at 0 0 from 1 to 6 pays 1;trade b at 0 0 from 2 to 5 pays 2;");
        late.breathe(0, 0, 0, 15);
        Kit.due("spoilt by its last hour", late.served(), 2);
        late.breathe(0, 0, 0, 1);
        Kit.due("not spoilt", late.served(), 3);
        Kit.due("paid()", x.paid(), 12);
        Kit.due("status()", x.status(), 0);
    }
}
