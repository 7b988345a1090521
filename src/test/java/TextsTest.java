/** Promises 10 to 20: the texts of PORT and NIGHTS, their FAULTS, and what is told of a PORT. */
public final class TextsTest {
    public static void main(String[] args) {
        portIsTaken();
        portOfNothing();
        portRefusesNumbers();
        portFaultsOfTokens();
        portFaultsOfGrammar();
        portFaultsOfNames();
        portFaultsOfNumbers();
        portFaultsOfCounts();
        portTakesTheLargest();
        portBeginsAnew();
        nightsAreTaken();
        nightsFaults();
        faultTells();
        manyTells();
        factsAreTold();
        fogIsTold();
        fogIsCopied();
        Kit.end();
    }

    // Promise 10.
    private static void portIsTaken() {
        FogKeys x = new FogKeys();
        Kit.due("port", Kit.port(x, Kit.BASE), 2);
        Kit.due("status()", x.status(), 0);
        Kit.due("the tape is empty", x.feed(0, 0, 0, 0, 0), 20);
        FogKeys y = Kit.ported("port2by 1;\n\n gate a at 1 0lets 40answers open quota 99;wind4;thins0;foggy0001;");
        Kit.due("tokens need no blanks", y.gate(0, 2), 40);
        Kit.due("answers", y.gate(0, 3), 1);
        Kit.due("quota", y.gate(0, 4), 99);
        Kit.due("open", y.many(10), 1);
        Kit.due("wind", y.many(6), 4);
        Kit.due("thins", y.many(7), 0);
        Kit.due("foggy", y.many(8), 1);
        FogKeys edge = Kit.ported("port 6 by 5; gate az at 5 4 lets 1 quota 1; holder za votes 20; foggy 99; thins 9; wind 0;"
            + "trade zz at 5 4 from 24 to 24 pays 99; ship aza at 5 4 to 5 4;");
        Kit.due("the greatest foggy", edge.many(8), 99);
        Kit.due("the least quota", edge.gate(0, 4), 1);
        FogKeys z = Kit.ported("port 1 by 1; gate a at 0 0 lets 1;");
        Kit.due("without wind", z.many(6), 0);
        Kit.due("without thins", z.many(7), 1);
        Kit.due("without foggy", z.many(8), 10);
        Kit.due("without quota", z.gate(0, 4), 1);
        Kit.due("without open", z.many(10), 0);
        FogKeys part = new FogKeys();
        Kit.feedText(part, "port 1 by 2; wind 9;");
        Kit.due("only the first bytes", part.port(12), 0);
        Kit.due("deep", part.many(1), 2);
        Kit.due("what is behind them is gone, too", part.feed(0, 0, 0, 0, 0), 20);
    }

    private static void portOfNothing() {
        FogKeys x = Kit.ported(Kit.BASE);
        Kit.due("port(0)", x.port(0), 0);
        Kit.due("status()", x.status(), 0);
        Kit.due("no boards", x.many(0), 0);
        Kit.due("no gates", x.many(2), 0);
    }

    private static void portRefusesNumbers() {
        FogKeys x = Kit.ported(Kit.BASE);
        x.feed(0, 0, 0, 0, 0);
        Kit.refused("port(-1)", x, x.port(-1), 5);
        Kit.refused("port(21)", x, x.port(21), 5);
        Kit.refused("port(901)", x, x.port(901), 5);
        Kit.due("the tape stays", x.feed(0, 0, 0, 0, 0), 40);
        Kit.due("the port stays", x.many(2), 2);
        Kit.due("fault(0) stays", x.fault(0), 0);
    }

    private static void portFaultsOfTokens() {
        Kit.portFault("|!port 1 by 1;", 1);
        Kit.portFault("port 1 by 1;|Gate", 1);
        Kit.portFault("port 1 by 1|\t;", 1);
        Kit.portFault("port 1 by 1;\n |\r", 1);
        Kit.portFault("port |12345 by 1;", 1);
        Kit.portFault("port 1 by 1; |00001", 1);
        Kit.portFault("port 1 by 1; gate |-", 1);
        Kit.portFault("port 1 by 1; wind |9; !", 4);
        Kit.portFault("port 1 by 1; gate |\u00e9 at", 1);
    }

    private static void portFaultsOfGrammar() {
        Kit.portFault("|gate a at 0 0 lets 1; port 1 by 1;", 2);
        Kit.portFault("|wind 1; port 1 by 1;", 2);
        Kit.portFault("|go", 2);
        Kit.portFault("|;", 2);
        Kit.portFault("|12", 2);
        Kit.portFault("port 1 by 1; |hour 1;", 2);
        Kit.portFault("port 1 by 1; |ports", 2);
        Kit.portFault("|tort 1 by 1;", 2);
        Kit.portFault("port 1 by 1; |por", 2);
        Kit.portFault("port 1 by 1; holder a votes 1 |azazaz;", 2);
        Kit.portFault("port 1 by 1; |;", 2);
        Kit.portFault("port|", 2);
        Kit.portFault("port  |", 2);
        Kit.portFault("port 1 by 1|", 2);
        Kit.portFault("port |by 1;", 2);
        Kit.portFault("port 1 |1;", 2);
        Kit.portFault("port 1 by 1 |wind 1;", 2);
        Kit.portFault("port 1 by 1; gate a |on 0 0 lets 1;", 2);
        Kit.portFault("port 1 by 1; gate a at 0 0 lets 1 open |answers;", 2);
        Kit.portFault("port 1 by 1; gate a at 0 0 lets 1 quota 3 |open;", 2);
        Kit.portFault("port 1 by 1; gate a at 0 0 lets 1 answers |answers;", 2);
        Kit.portFault("port 1 by 1; gate a at 0 0 lets 1 quota |;", 2);
        Kit.portFault("port 1 by 1; gate a at 0 0 lets |< 1;", 2);
        Kit.portFault("port 1 by 1; holder a |vote 1;", 2);
        Kit.portFault("port 1 by 1; holder a votes |b;", 2);
        Kit.portFault("port 1 by 1; trade a at 0 0 from 1 to 1 |clear;", 2);
        Kit.portFault("port 1 by 1; trade a at 0 0 from 1 to 1 pays 1 clear |clear;", 2);
        Kit.portFault("port 1 by 1; trade a at 0 0 from 1 |pays 1;", 2);
        Kit.portFault("port 1 by 1; ship a at 0 0 |0 0;", 2);
        Kit.portFault("port 1 by 1; ship a at 0 0 to 0 0 dark |dark;", 2);
        Kit.portFault("port 1 by 1; wind 1 |= 1;", 2);
        Kit.portFault("port 1 by 1; thins |;", 2);
    }

    private static void portFaultsOfNames() {
        String reserved = "port by gate at lets answers open quota holder votes trade from to pays clear ship dark wind thins"
            + " foggy hour shut storm when loop end stop";
        for (String word : reserved.split(" ")) {
            Kit.portFault("port 1 by 1; holder |" + word + " votes 1;", 2);
        }
        Kit.portFault("port 1 by 1; holder |abcdefghi votes 1;", 2);
        Kit.portFault("port 1 by 1; holder |1 votes 1;", 2);
        Kit.portFault("port 1 by 1; holder a votes 1;holder |a votes 1;", 3);
        Kit.portFault("port 1 by 1; gate a at 0 0 lets 1;ship |a at 0 0 to 0 0;", 3);
        Kit.portFault("port 1 by 1; trade abcdefgh at 0 0 from 1 to 1 pays 1;gate |abcdefgh at 9 9 lets 1;", 3);
        Kit.portFault("port 1 by 1; ship a at 0 0 to 0 0;trade |a at 0 0 from 1 to 1 pays 1;", 3);
        Kit.ported("port 1 by 1; holder abcdefgh votes 1; holder abcdefgi votes 1; holder a votes 1; holder aa votes 1;"
            + "holder ports votes 1; holder por votes 1;");
    }

    private static void portFaultsOfNumbers() {
        Kit.portFault("port |0 by 1;", 4);
        Kit.portFault("port |7 by 1;", 4);
        Kit.portFault("port 6 by |0;", 4);
        Kit.portFault("port 6 by |6;", 4);
        Kit.portFault("port 2 by 3; gate a at |2 0 lets 1;", 4);
        Kit.portFault("port 2 by 3; gate a at 1 |3 lets 1;", 4);
        Kit.portFault("port 2 by 3; gate a at 0 0 lets |0;", 4);
        Kit.portFault("port 2 by 3; gate a at 0 0 lets |41;", 4);
        Kit.portFault("port 2 by 3; gate a at 0 0 lets 1 quota |0;", 4);
        Kit.portFault("port 2 by 3; gate a at 0 0 lets 1 quota |100;", 4);
        Kit.portFault("port 2 by 3; holder a votes |0;", 4);
        Kit.portFault("port 2 by 3; holder a votes |21;", 4);
        Kit.portFault("port 2 by 3; trade a at |2 0 from 1 to 1 pays 1;", 4);
        Kit.portFault("port 2 by 3; trade a at 0 |3 from 1 to 1 pays 1;", 4);
        Kit.portFault("port 2 by 3; trade a at 0 0 from |0 to 1 pays 1;", 4);
        Kit.portFault("port 2 by 3; trade a at 0 0 from |25 to 25 pays 1;", 4);
        Kit.portFault("port 2 by 3; trade a at 0 0 from 5 to |4 pays 1;", 4);
        Kit.portFault("port 2 by 3; trade a at 0 0 from 5 to |25 pays 1;", 4);
        Kit.portFault("port 2 by 3; trade a at 0 0 from 5 to 5 pays |0;", 4);
        Kit.portFault("port 2 by 3; trade a at 0 0 from 5 to 5 pays |100;", 4);
        Kit.portFault("port 2 by 3; ship a at |2 0 to 0 0;", 4);
        Kit.portFault("port 2 by 3; ship a at 0 |3 to 0 0;", 4);
        Kit.portFault("port 2 by 3; ship a at 0 0 to |2 0;", 4);
        Kit.portFault("port 2 by 3; ship a at 0 0 to 0 |3;", 4);
        Kit.portFault("port 2 by 3; wind |5;", 4);
        Kit.portFault("port 2 by 3; thins |10;", 4);
        Kit.portFault("port 2 by 3; foggy |0;", 4);
        Kit.portFault("port 2 by 3; foggy |100;", 4);
        Kit.portFault("port 2 by 3; foggy |9999;", 4);
    }

    private static void portFaultsOfCounts() {
        Kit.portFault("port 1 by 1; |port 1 by 1;", 5);
        Kit.portFault("port 1 by 1; wind 0; |wind 1;", 5);
        Kit.portFault("port 1 by 1; thins 1; |thins", 5);
        Kit.portFault("port 1 by 1; foggy 10; |foggy 10;", 5);
        StringBuilder gates = new StringBuilder("port 1 by 1;");
        StringBuilder holders = new StringBuilder("port 1 by 1;");
        StringBuilder trades = new StringBuilder("port 1 by 1;");
        StringBuilder ships = new StringBuilder("port 1 by 1;");
        for (char c = 'a'; c < 'g'; c++) {
            gates.append("gate ").append(c).append(" at 0 0 lets 1;");
            holders.append("holder ").append(c).append(" votes 1;");
            trades.append("trade ").append(c).append(" at 0 0 from 1 to 1 pays 1;");
            ships.append(c < 'e' ? "ship " + c + " at 0 0 to 0 0;" : "");
        }
        Kit.ported(gates.toString());
        Kit.ported(holders.toString());
        Kit.ported(trades.toString());
        Kit.ported(ships.toString());
        Kit.portFault(gates + "|gate a", 6);
        Kit.portFault(holders + "|holder !", 6);
        Kit.portFault(trades + " |trade", 6);
        Kit.portFault(ships + "|ship a", 6);
    }

    private static void portTakesTheLargest() {
        StringBuilder text = new StringBuilder("port 6 by 5;");
        for (char c = 'a'; c < 'g'; c++) {
            text.append("gate g").append(c).append(" at 5 4 lets 40;holder h").append(c).append(" votes 20;trade t").append(c)
                .append(" at 5 4 from 24 to 24 pays 99;").append(c < 'e' ? "ship s" + c + " at 5 4 to 0 0 dark;" : "");
        }
        while (text.length() < 900) {
            text.append('\n');
        }
        FogKeys x = new FogKeys();
        Kit.due("900 bytes", Kit.port(x, text.toString()), 6);
        int[] due = {6, 5, 6, 6, 6, 4};
        for (int what = 0; what < 6; what++) {
            Kit.due("many(" + what + ")", x.many(what), due[what]);
        }
    }

    private static void portBeginsAnew() {
        FogKeys x = Kit.ported(Kit.BASE);
        x.hour(5);
        Kit.nights(x, "stop;");
        x.open(1, true);
        Kit.port(x, Kit.BASE);
        Kit.due("hour", x.many(9), 0);
        Kit.due("no wool", x.many(11), 0);
        Kit.due("gates as told", x.many(10), 1);
        Kit.refused("no nights", x, x.live(0), 8);
        Kit.due("mark", x.mark(), 1);
        Kit.port(x, "port 1 by 1;");
        Kit.due("marks stay", x.back(), 0);
        Kit.due("gates are back", x.many(2), 2);
    }

    // Promise 11.
    private static void nightsAreTaken() {
        FogKeys x = Kit.ported(Kit.BASE);
        Kit.due("steps", Kit.nights(x, "hour 24;open sea;shut old;wind 4;storm;when foggy 3 2;loop 99;stop;end;end;"), 8);
        Kit.due("status()", x.status(), 0);
        Kit.due("tests", Kit.nights(x, "when open sea;end;when lets 0 0<999;end;when lets 3 2 > 0;end;when lets 1 1=5;end;"), 4);
        Kit.due("three deep, twice", Kit.nights(x, "loop 1;loop 1;when open sea;end;loop 1;end;end;end;loop 1;end;"), 5);
        Kit.due("an empty text", Kit.nights(x, ""), 0);
        StringBuilder thirty = new StringBuilder();
        for (int i = 0; i < 15; i++) {
            thirty.append("loop 1;stop;end;");
        }
        Kit.due("30 steps", Kit.nights(x, thirty.toString()), 30);
        Kit.feedText(x, "stop;" + " ".repeat(296));
        Kit.refused("nights(301)", x, x.nights(301), 5);
        Kit.due("nights(300)", x.nights(300), 1);
        x.feed(0, 0, 0, 0, 0);
        Kit.refused("nights(-1)", x, x.nights(-1), 5);
        Kit.refused("nights(21)", x, x.nights(21), 5);
        Kit.due("the tape stays", x.feed(0, 0, 0, 0, 0), 40);
    }

    private static void nightsFaults() {
        FogKeys x = Kit.ported(Kit.BASE);
        Kit.nights(x, "hour 1; hour 1;");
        Kit.nightsFault(x, "hour |!;", 1);
        Kit.nightsFault(x, "hour |12345;", 1);
        Kit.nightsFault(x, "|end;", 2);
        Kit.nightsFault(x, "loop 1;end;|end;", 2);
        Kit.nightsFault(x, "loop 1;stop;|", 2);
        Kit.nightsFault(x, "loop 1;stop;end|", 2);
        Kit.nightsFault(x, "loop 1;loop 2;end; \n|", 2);
        Kit.nightsFault(x, "|gate sea;", 2);
        Kit.nightsFault(x, "|foggy 0 0;", 2);
        Kit.nightsFault(x, "hour |sea;", 2);
        Kit.nightsFault(x, "hour 1 |hour 1;", 2);
        Kit.nightsFault(x, "open |abcdefghi;", 2);
        Kit.nightsFault(x, "open |end;", 2);
        Kit.nightsFault(x, "open |1;", 2);
        Kit.nightsFault(x, "when |shut sea;", 2);
        Kit.nightsFault(x, "when foggy 0 0|", 2);
        Kit.nightsFault(x, "when lets 0 0 |;", 2);
        Kit.nightsFault(x, "when lets 0 0 < |;", 2);
        Kit.nightsFault(x, "when lets 0 0 < |> 1;", 2);
        Kit.nightsFault(x, "storm |sea;", 2);
        Kit.nightsFault(x, "open |nobody;", 3);
        Kit.nightsFault(x, "shut |ann;", 3);
        Kit.nightsFault(x, "when open |wash; end;", 3);
        Kit.nightsFault(x, "hour |0;", 4);
        Kit.nightsFault(x, "hour |25;", 4);
        Kit.nightsFault(x, "wind |5;", 4);
        Kit.nightsFault(x, "loop |0;", 4);
        Kit.nightsFault(x, "loop |100;", 4);
        Kit.nightsFault(x, "when foggy |4 0;", 4);
        Kit.nightsFault(x, "when foggy 3 |3;", 4);
        Kit.nightsFault(x, "when lets |4 0 < 1;", 4);
        Kit.nightsFault(x, "when lets 0 |3 < 1;", 4);
        Kit.nightsFault(x, "when lets 0 0 = |1000;", 4);
        Kit.nightsFault(x, "stop;".repeat(30) + "|stop;", 6);
        Kit.nightsFault(x, "stop;".repeat(27) + "loop 1;loop 1;loop 1;|loop 1;", 6);
        Kit.nightsFault(x, "stop;".repeat(30) + "|end;", 2);
        Kit.nightsFault(x, "loop 1;loop 1;when open sea;|when open sea;", 7);
        Kit.nightsFault(x, "loop 1;loop 1;loop 1;stop;|loop 1;", 7);
        Kit.due("the old nights stay: live(0)", x.live(0), 2);
        FogKeys y = new FogKeys();
        Kit.nightsFault(y, "when foggy |0 0;end;", 4);
        Kit.nightsFault(y, "open |sea;", 3);
        Kit.due("nights of no boards", Kit.nights(y, "storm; hour 3; wind 2;"), 3);
    }

    // Promise 12.
    private static void faultTells() {
        FogKeys x = new FogKeys();
        Kit.due("fault(0) ahead of any", x.fault(0), -1);
        Kit.due("fault(1) ahead of any", x.fault(1), -1);
        Kit.port(x, "port 1 by 9;");
        Kit.due("fault(0)", x.fault(0), 4);
        Kit.due("fault(1)", x.fault(1), 10);
        Kit.due("fault(2)", x.fault(2), -1);
        Kit.due("fault(-1)", x.fault(-1), -1);
        x.port(1);
        Kit.due("a call with 5 changes nothing", x.fault(1), 10);
        Kit.nights(x, "stop;");
        Kit.due("fault(0) without one", x.fault(0), 0);
        Kit.due("fault(1) without one", x.fault(1), -1);
        Kit.nights(x, "go;");
        Kit.due("fault(0)", x.fault(0), 2);
        Kit.due("fault(1)", x.fault(1), 0);
    }

    // Promise 13.
    private static void manyTells() {
        FogKeys x = Kit.ported("port 3 by 2;gate a at 0 0 lets 9;gate b at 1 0 lets 9 open;gate c at 2 1 lets 9 open;"
            + "holder d votes 1;trade e at 0 0 from 1 to 1 pays 1;trade f at 0 0 from 1 to 1 pays 1;ship g at 0 0 to 0 0;"
            + "ship h at 0 0 to 0 0;ship i at 0 0 to 0 0;wind 3;thins 9;foggy 50;");
        x.breathe(0, 0, 0, 49);
        x.breathe(1, 0, 0, 50);
        x.breathe(1, 1, 1, 30);
        x.breathe(2, 1, 1, 40);
        x.breathe(2, 1, 0, 10);
        int[] due = {3, 2, 3, 1, 2, 3, 3, 9, 50, 0, 6, 109, 70, 2};
        for (int what = 0; what < 14; what++) {
            Kit.due("many(" + what + ")", x.many(what), due[what]);
        }
        Kit.refused("many(14)", x, x.many(14), 5);
        Kit.refused("many(-1)", x, x.many(-1), 5);
        x.hour(7);
        Kit.due("the hour", x.many(9), 7);
    }

    // Promises 14 to 17.
    private static void factsAreTold() {
        FogKeys x = Kit.ported(Kit.BASE);
        int[][] gates = {{0, 0, 16, 0, 5}, {3, 2, 8, 1, 9}};
        int[][] trades = {{0, 0, 1, 3, 9, 0}, {3, 0, 1, 4, 6, 1}, {3, 2, 2, 3, 7, 0}};
        int[][] ships = {{0, 2, 3, 0, 0}, {0, 0, 1, 0, 1}};
        int[] votes = {4, 3, 2};
        for (int i = 0; i < 3; i++) {
            for (int what = 0; what < 6; what++) {
                if (i < 2 && what < 5) {
                    Kit.due("gate(" + i + ", " + what + ")", x.gate(i, what), gates[i][what]);
                    Kit.due("ship(" + i + ", " + what + ")", x.ship(i, what), ships[i][what]);
                }
                Kit.due("trade(" + i + ", " + what + ")", x.trade(i, what), trades[i][what]);
            }
            Kit.due("votes(" + i + ")", x.votes(i), votes[i]);
        }
        Kit.refused("gate(2, 9)", x, x.gate(2, 9), 2);
        Kit.refused("gate(-1, 0)", x, x.gate(-1, 0), 2);
        Kit.refused("gate(0, 5)", x, x.gate(0, 5), 5);
        Kit.refused("gate(0, -1)", x, x.gate(0, -1), 5);
        Kit.refused("votes(3)", x, x.votes(3), 2);
        Kit.refused("votes(-1)", x, x.votes(-1), 2);
        Kit.refused("trade(3, 9)", x, x.trade(3, 9), 2);
        Kit.refused("trade(-1, 0)", x, x.trade(-1, 0), 2);
        Kit.refused("trade(0, 6)", x, x.trade(0, 6), 5);
        Kit.refused("trade(0, -1)", x, x.trade(0, -1), 5);
        Kit.refused("ship(2, 9)", x, x.ship(2, 9), 2);
        Kit.refused("ship(-1, 0)", x, x.ship(-1, 0), 2);
        Kit.refused("ship(0, 5)", x, x.ship(0, 5), 5);
        Kit.refused("ship(0, -1)", x, x.ship(0, -1), 5);
    }

    // Promises 18 and 19.
    private static void fogIsTold() {
        FogKeys x = Kit.ported("port 3 by 2;foggy 12;");
        x.breathe(2, 1, 0, 5);
        x.breathe(2, 1, 1, 6);
        Kit.due("fog(2, 1, 0)", x.fog(2, 1, 0), 5);
        Kit.due("fog(2, 1, 1)", x.fog(2, 1, 1), 6);
        Kit.due("fog(1, 1, 0)", x.fog(1, 1, 0), 0);
        Kit.due("foggy(2, 1)", x.foggy(2, 1), 0);
        x.breathe(2, 1, 1, 1);
        Kit.due("both kinds together are foggy", x.foggy(2, 1), 1);
        Kit.refused("fog(3, 0, 9)", x, x.fog(3, 0, 9), 2);
        Kit.refused("fog(0, 2, 0)", x, x.fog(0, 2, 0), 2);
        Kit.refused("fog(-1, 0, 0)", x, x.fog(-1, 0, 0), 2);
        Kit.refused("fog(0, -1, 0)", x, x.fog(0, -1, 0), 2);
        Kit.refused("fog(0, 0, 2)", x, x.fog(0, 0, 2), 5);
        Kit.refused("fog(0, 0, -1)", x, x.fog(0, 0, -1), 5);
        Kit.refused("foggy(3, 0)", x, x.foggy(3, 0), 2);
        Kit.refused("foggy(0, 2)", x, x.foggy(0, 2), 2);
    }

    // Promise 20.
    private static void fogIsCopied() {
        FogKeys x = Kit.ported("port 3 by 2;");
        x.breathe(0, 0, 1, 3);
        x.breathe(1, 0, 0, 100);
        x.breathe(1, 0, 1, 100);
        x.breathe(0, 1, 1, 999);
        x.tray(0, 1, 7);
        x.write(0, 6, 5);
        x.write(0, 5, 5);
        Kit.due("copyFog(0)", x.copyFog(0), 6);
        long[] due = {3, 200, 0, 999, 0, 0, 5};
        for (int i = 0; i < 7; i++) {
            Kit.due("place " + i, x.read(0, i), due[i]);
        }
        x.tray(1, 0, 6);
        Kit.due("copyFog(1)", x.copyFog(1), 6);
        Kit.due("cut to 8 bits", x.read(1, 1), -56);
        Kit.due("cut to 8 bits", x.read(1, 3), -25);
        x.tray(2, 3, 5);
        x.write(2, 1, 7);
        Kit.refused("too few", x, x.copyFog(2), 4);
        Kit.due("nothing came", x.read(2, 1), 7);
        Kit.refused("missing", x, x.copyFog(3), 3);
        Kit.refused("none", x, x.copyFog(4), 1);
        Kit.refused("none", x, x.copyFog(-1), 1);
        x.port(0);
        x.tray(2, 3, 0);
        Kit.due("no boards", x.copyFog(2), 0);
    }
}
