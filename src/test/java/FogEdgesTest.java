import java.util.Arrays;

/** The boundaries that ==== 2 and 3 of the document name: HOURS, FORECASTS, PLANS, ways, HOLDERS, KEYS. */
public final class FogEdgesTest {
    private static final int[] COLUMNS = {0, 1, 0, -1, 0};
    private static final int[] ROWS = {0, 0, 1, 0, -1};

    public static void main(String[] args) {
        fogLetInAbove999IsLost();
        onlyOpenGatesLetIn();
        aQuarterRoundedDown();
        outOfThePortItIsLost();
        anEighthRoundedDown();
        asManyBoardsAsAreBeside();
        allAtOnce();
        neverAbove999();
        theLesserIsGone();
        firstGatesThenDriftThenMeetThenThin();
        thinnedToNothing();
        foggyFromSoMuchOn();
        oneKindAtTheEndOfAnHour();
        liftsNowToFortyEight();
        comesNowToFortyEight();
        forecastOfNothingAndFortyEight();
        thickestOfOneAndFortyEight();
        servedFromFirstToLast();
        servedAtHoursOneAndTwentyFour();
        planOfNothing();
        planOfTies();
        turnOfOneAndTwentyThree();
        turnOfTies();
        wayFromABoardToItself();
        wayByAllCounts();
        wayByFogOrClear();
        sailStaysOrGoes();
        sailOfFortyEight();
        watchOfNothing();
        watchBesideOrOne();
        watchAgainstAllSets();
        watchHoweverTurned();
        quotaJustReached();
        powerOfOneToSix();
        vetoAndIdleOfOneToSix();
        keysOfOneToSix();
        nextOfTwoWays();
        Kit.end();
    }

    // "(what would be above 999 is lost)", of what a gate lets in.
    private static void fogLetInAbove999IsLost() {
        FogKeys x = Kit.ported("port 1 by 1;gate a at 0 0 lets 2 open;gate b at 0 0 lets 2 answers;thins 0;");
        x.breathe(0, 0, 0, 996);
        int[] due = {998, 999, 999};
        for (int i = 0; i < 3; i++) {
            x.hour(1);
            Kit.due("wool at hour " + (i + 1), x.fog(0, 0, 0), due[i]);
        }
        x.sweep(0, 0);
        x.open(0, false);
        x.open(1, true);
        x.breathe(0, 0, 1, 998);
        x.hour(1);
        Kit.due("what answers", x.fog(0, 0, 1), 999);
        // Lost ahead of the drift: a quarter of 999, not of 1,038, is gone.
        FogKeys wind = Kit.ported("port 1 by 1;gate a at 0 0 lets 40 open;thins 0;wind 1;");
        wind.breathe(0, 0, 0, 998);
        wind.hour(1);
        Kit.due("999 less a quarter", wind.fog(0, 0, 0), 750);
        FogKeys six = Kit.ported("port 1 by 1;gate a at 0 0 lets 40 open;gate b at 0 0 lets 40 open;gate c at 0 0 lets 40 open;thins 0;");
        six.breathe(0, 0, 0, 880);
        six.hour(1);
        Kit.due("of three gates", six.fog(0, 0, 0), 999);
    }

    // "each GATE that is OPEN LETS its fog in".
    private static void onlyOpenGatesLetIn() {
        StringBuilder text = new StringBuilder("port 6 by 1;thins 0;");
        for (int i = 0; i < 6; i++) {
            text.append("gate ").append((char) ('a' + i)).append(" at ").append(i).append(" 0 lets ").append(i + 1)
                .append(i % 2 == 0 ? ";" : " answers;");
        }
        for (int set = 0; set < 64; set++) {
            FogKeys x = Kit.ported(text.toString());
            for (int i = 0; i < 6; i++) {
                if ((set >> i & 1) == 1) {
                    x.open(i, true);
                }
            }
            Kit.due("many(10)", x.many(10), set);
            x.hour(1);
            for (int i = 0; i < 6; i++) {
                Kit.due("set " + set + " board " + i, x.fog(i, 0, i % 2), (set >> i & 1) == 1 ? i + 1 : 0);
                Kit.due("set " + set + " board " + i + ", other kind", x.fog(i, 0, 1 - i % 2), 0);
            }
        }
    }

    // "with a WIND a quarter of each KIND of each board, rounded down, goes to the next board by it".
    private static void aQuarterRoundedDown() {
        int[] much = {1, 3, 4, 7, 8, 999};
        int[] quarters = {0, 0, 1, 1, 2, 249};
        for (int wind = 1; wind <= 4; wind++) {
            for (int kind = 0; kind < 2; kind++) {
                for (int i = 0; i < much.length; i++) {
                    FogKeys x = Kit.ported("port 3 by 3;thins 0;wind " + wind + ";");
                    x.breathe(1, 1, kind, much[i]);
                    x.hour(1);
                    Kit.due("left of " + much[i], x.fog(1, 1, kind), much[i] - quarters[i]);
                    Kit.due("went of " + much[i], x.fog(1 + COLUMNS[wind], 1 + ROWS[wind], kind), quarters[i]);
                    Kit.due("wind " + wind + ": nowhere else", x.many(11 + kind), much[i]);
                }
            }
        }
    }

    // "(out of the port it is lost)": each board at the edge, none within.
    private static void outOfThePortItIsLost() {
        for (int wind = 1; wind <= 4; wind++) {
            for (int board = 0; board < 6; board++) {
                int column = board % 3;
                int row = board / 3;
                int toColumn = column + COLUMNS[wind];
                int toRow = row + ROWS[wind];
                boolean isIn = toColumn >= 0 && toColumn < 3 && toRow >= 0 && toRow < 2;
                FogKeys x = Kit.ported("port 3 by 2;thins 0;wind " + wind + ";");
                x.breathe(column, row, 1, 40);
                x.hour(1);
                Kit.due("wind " + wind + " from " + column + " " + row, x.many(12), isIn ? 40 : 30);
                Kit.due("stays", x.fog(column, row, 1), 30);
                Kit.due("goes", x.fog(toColumn, toRow, 1), isIn ? 10 : -1);
            }
        }
    }

    // "with none an eighth of each KIND, rounded down, goes to each board beside it".
    private static void anEighthRoundedDown() {
        int[] much = {1, 7, 8, 15, 16, 999};
        int[] eighths = {0, 0, 1, 1, 2, 124};
        for (int kind = 0; kind < 2; kind++) {
            for (int i = 0; i < much.length; i++) {
                FogKeys x = Kit.ported("port 3 by 3;thins 0;");
                x.breathe(1, 1, kind, much[i]);
                x.hour(1);
                Kit.due("left of " + much[i], x.fog(1, 1, kind), much[i] - 4 * eighths[i]);
                for (int side = 1; side <= 4; side++) {
                    Kit.due("went of " + much[i], x.fog(1 + COLUMNS[side], 1 + ROWS[side], kind), eighths[i]);
                }
                Kit.due("not across", x.fog(0, 0, kind) + x.fog(2, 0, kind) + x.fog(0, 2, kind) + x.fog(2, 2, kind), 0);
            }
        }
    }

    // "each board beside it (side by side, or one behind the other": corners have two, edges three; nothing goes out or around.
    private static void asManyBoardsAsAreBeside() {
        int[][] sizes = {{1, 1}, {1, 3}, {3, 1}, {3, 3}, {6, 5}, {2, 2}};
        for (int[] size : sizes) {
            for (int board = 0; board < size[0] * size[1]; board++) {
                int column = board % size[0];
                int row = board / size[0];
                FogKeys x = Kit.ported("port " + size[0] + " by " + size[1] + ";thins 0;");
                x.breathe(column, row, 0, 80);
                x.hour(1);
                int beside = 0;
                for (int side = 1; side <= 4; side++) {
                    int got = x.fog(column + COLUMNS[side], row + ROWS[side], 0);
                    if (got != FogKeys.NONE) {
                        beside++;
                        Kit.due("beside " + column + " " + row, got, 10);
                    }
                }
                Kit.due("left at " + column + " " + row, x.fog(column, row, 0), 80 - 10 * beside);
                Kit.due("nothing is lost", x.many(11), 80);
            }
        }
    }

    private static void row(String what, FogKeys x, boolean isUpright, int... due) {
        for (int i = 0; i < due.length; i++) {
            Kit.due(what + " board " + i, isUpright ? x.fog(0, i, 0) : x.fog(i, 0, 0), due[i]);
        }
    }

    // "Then it drifts, all at once by what is there then": 6 that take 2 give 1, a quarter of 6, not 2 of 8.
    private static void allAtOnce() {
        int[][] much = {{8, 7, 0}, {8, 6, 0}, {8, 6, 0}, {0, 6, 8}, {0, 6, 8}};
        int[][] due = {{7, 8, 0}, {6, 7, 1}, {6, 7, 1}, {1, 7, 6}, {1, 7, 6}};
        for (int wind = 0; wind <= 4; wind++) {
            boolean isUpright = wind == 2 || wind == 4;
            FogKeys x = Kit.ported("port " + (isUpright ? "1 by 3" : "3 by 1") + ";thins 0;wind " + wind + ";");
            for (int i = 0; i < 3; i++) {
                if (much[wind][i] > 0) {
                    x.breathe(isUpright ? 0 : i, isUpright ? i : 0, 0, much[wind][i]);
                }
            }
            x.hour(1);
            row("wind " + wind, x, isUpright, due[wind]);
        }
    }

    // "(0 to 999)", whatever drifts.
    private static void neverAbove999() {
        for (int wind = 0; wind <= 4; wind++) {
            FogKeys x = Kit.ported("port 3 by 3;thins 0;wind " + wind + ";gate a at 1 1 lets 40 open;gate b at 0 0 lets 40 open;");
            for (int i = 0; i < 9; i++) {
                x.breathe(i % 3, i / 3, 0, 999);
            }
            x.hour(1);
            for (int i = 0; i < 9; i++) {
                int column = i % 3;
                int row = i / 3;
                boolean isFirst = wind == 1 && column == 0 || wind == 2 && row == 0 || wind == 3 && column == 2 || wind == 4 && row == 2;
                Kit.due("wind " + wind + " board " + i, x.fog(column, row, 0), isFirst ? 750 : 999);
            }
        }
    }

    // "WOOL and ANSWERS MEET: of both as much as the lesser of a board is gone."
    private static void theLesserIsGone() {
        int[][] pairs = {{5, 5}, {5, 6}, {6, 5}, {0, 7}, {7, 0}, {999, 999}, {999, 1}, {1, 999}};
        for (int[] pair : pairs) {
            FogKeys x = Kit.ported("port 1 by 1;thins 0;");
            if (pair[0] > 0) {
                x.breathe(0, 0, 0, pair[0]);
            }
            if (pair[1] > 0) {
                x.breathe(0, 0, 1, pair[1]);
            }
            x.hour(1);
            Kit.due("wool of " + pair[0] + " and " + pair[1], x.fog(0, 0, 0), Math.max(0, pair[0] - pair[1]));
            Kit.due("answers of " + pair[0] + " and " + pair[1], x.fog(0, 0, 1), Math.max(0, pair[1] - pair[0]));
        }
    }

    // "First each GATE .. Then it drifts .. Then WOOL and ANSWERS MEET .. Then each KIND of each board THINS".
    private static void firstGatesThenDriftThenMeetThenThin() {
        FogKeys x = Kit.ported("port 2 by 1;gate a at 0 0 lets 4 open;thins 2;wind 1;");
        x.breathe(0, 0, 0, 4);
        x.breathe(1, 0, 1, 8);
        x.hour(1);
        // 8 let in and there, 2 of it go; 8 of the other, 2 of it lost; 2 and 6 meet; 2 thin.
        Kit.due("wool", x.fog(0, 0, 0), 4);
        Kit.due("none of it there", x.fog(1, 0, 0), 0);
        Kit.due("answers", x.fog(1, 0, 1), 2);
        FogKeys both = Kit.ported("port 2 by 1;thins 1;wind 1;");
        both.breathe(0, 0, 0, 8);
        both.breathe(0, 0, 1, 8);
        both.hour(1);
        Kit.due("both go ahead of meeting", both.many(11) + both.many(12), 0);
        FogKeys some = Kit.ported("port 2 by 1;thins 0;wind 1;");
        some.breathe(0, 0, 0, 8);
        some.breathe(0, 0, 1, 3);
        some.hour(1);
        Kit.due("a quarter of all 8", some.fog(1, 0, 0), 2);
        Kit.due("then they meet", some.fog(0, 0, 0), 3);
        FogKeys thin = Kit.ported("port 1 by 1;thins 9;");
        thin.breathe(0, 0, 0, 12);
        thin.breathe(0, 0, 1, 2);
        thin.hour(1);
        Kit.due("they meet ahead of thinning", thin.fog(0, 0, 0), 1);
    }

    // "THINS by so much (0 at least)".
    private static void thinnedToNothing() {
        for (int thins = 0; thins <= 9; thins++) {
            for (int kind = 0; kind < 2; kind++) {
                for (int much = 1; much <= 10; much++) {
                    FogKeys x = Kit.ported("port 1 by 1;thins " + thins + ";");
                    x.breathe(0, 0, kind, much);
                    x.hour(1);
                    Kit.due(much + " thinned by " + thins, x.fog(0, 0, kind), Math.max(0, much - thins));
                    Kit.due("the other kind", x.fog(0, 0, 1 - kind), 0);
                }
            }
        }
    }

    // "FOGGY: WOOL and ANSWERS together are no less than FOGGY; else CLEAR."
    private static void foggyFromSoMuchOn() {
        for (int from : new int[] {1, 2, 10, 98, 99}) {
            for (int wool = 0; wool <= from; wool += Math.max(1, from / 3)) {
                FogKeys x = Kit.ported("port 2 by 1;foggy " + from + ";");
                if (wool > 0) {
                    x.breathe(1, 0, 0, wool);
                }
                if (from - 1 - wool > 0) {
                    x.breathe(1, 0, 1, from - 1 - wool);
                }
                boolean isFoggy = wool == from;
                Kit.due("one less than " + from, x.foggy(1, 0), isFoggy ? 1 : 0);
                Kit.due("many(13)", x.many(13), isFoggy ? 1 : 0);
                x.breathe(1, 0, 1, 1);
                Kit.due("just " + from, x.foggy(1, 0), 1);
                Kit.due("many(13)", x.many(13), 1);
                Kit.due("another board", x.foggy(0, 0), 0);
            }
        }
    }

    // "(There is never more than one KIND in a board at the end of an HOUR.)"
    private static void oneKindAtTheEndOfAnHour() {
        FogKeys x = Kit.ported("port 3 by 1;gate a at 0 0 lets 40 open;gate b at 2 0 lets 40 answers open;thins 0;");
        x.breathe(1, 0, 0, 300);
        x.breathe(1, 0, 1, 299);
        Kit.due("both stay till then", Math.min(x.fog(1, 0, 0), x.fog(1, 0, 1)), 299);
        for (int i = 0; i < 30; i++) {
            x.hour(1);
            for (int column = 0; column < 3; column++) {
                Kit.due("the lesser", Math.min(x.fog(column, 0, 0), x.fog(column, 0, 1)), 0);
            }
        }
    }

    // "LIFTS: in how many HOURS (0: now; 48 at most) a board is CLEAR first".
    private static void liftsNowToFortyEight() {
        for (int hours = 0; hours <= 50; hours++) {
            FogKeys x = Kit.ported("port 1 by 1;foggy 1;thins 1;");
            if (hours > 0) {
                x.breathe(0, 0, 0, hours);
            }
            Kit.due("lifts in " + hours, x.lifts(0, 0), hours <= 48 ? hours : -1);
            Kit.due("status()", x.status(), hours <= 48 ? 0 : 8);
        }
        // Clear now, foggy later: now is the first.
        FogKeys y = Kit.ported("port 1 by 1;gate a at 0 0 lets 9 open;foggy 1;thins 0;");
        Kit.due("lifts now", y.lifts(0, 0), 0);
        y.hour(1);
        Kit.refused("never", y, y.lifts(0, 0), 8);
    }

    // "COMES: FOGGY first".
    private static void comesNowToFortyEight() {
        for (int hours = 0; hours <= 50; hours++) {
            FogKeys x = Kit.ported("port 1 by 1;gate a at 0 0 lets 1 open;foggy " + Math.max(1, hours) + ";thins 0;");
            if (hours == 0) {
                x.breathe(0, 0, 1, 1);
            }
            Kit.due("comes in " + hours, x.comes(0, 0), hours <= 48 ? hours : -1);
            Kit.due("status()", x.status(), hours <= 48 ? 0 : 8);
        }
        FogKeys y = Kit.ported("port 1 by 1;");
        Kit.refused("never", y, y.comes(0, 0), 8);
    }

    // "in so many HOURS (0 to 48)", "as if only HOURS go by, GATES and WIND as they are".
    private static void forecastOfNothingAndFortyEight() {
        FogKeys x = Kit.ported("port 3 by 1;gate a at 0 0 lets 3 open;gate b at 2 0 lets 2 answers;foggy 5;thins 0;wind 1;");
        x.breathe(1, 0, 0, 7);
        x.breathe(1, 0, 1, 2);
        int[] first = new int[49];
        int[] second = new int[49];
        int[] foggy = new int[49];
        for (int hours = 0; hours <= 48; hours++) {
            first[hours] = x.later(0, 0, hours);
            second[hours] = x.later(1, 0, hours);
            foggy[hours] = x.foggyIn(hours);
        }
        Kit.due("both kinds now", second[0], 9);
        for (int hours = 0; hours <= 48; hours++) {
            Kit.due("as it comes in " + hours, x.fog(0, 0, 0) + x.fog(0, 0, 1), first[hours]);
            Kit.due("as it comes in " + hours, x.fog(1, 0, 0) + x.fog(1, 0, 1), second[hours]);
            Kit.due("as many are foggy in " + hours, x.many(13), foggy[hours]);
            x.hour(1);
        }
    }

    // "The HOUR, of the next n (1 to 48), at the end of which the most boards are FOGGY, of several the first".
    private static void thickestOfOneAndFortyEight() {
        FogKeys none = Kit.ported("port 2 by 1;");
        Kit.due("never foggy: the first", none.thickest(48), 1);
        Kit.due("of one", none.thickest(1), 1);
        FogKeys now = Kit.ported("port 1 by 1;thins 9;foggy 9;");
        now.breathe(0, 0, 0, 9);
        Kit.due("now is none of the next", now.thickest(48), 1);
        FogKeys last = Kit.ported("port 1 by 1;gate a at 0 0 lets 1 open;thins 0;foggy 48;");
        Kit.due("the last of 48", last.thickest(48), 48);
        Kit.due("none of 47: the first", last.thickest(47), 1);
        last.hour(1);
        Kit.due("counted from now on", last.thickest(48), 47);
    }

    // "at the end of each HOUR from FROM to TO": of a board that is foggy at the ends of hours 3 to 6 alone.
    private static void servedFromFirstToLast() {
        for (int from = 1; from <= 8; from++) {
            for (int to = from; to <= 8; to++) {
                FogKeys x = Kit.ported("port 2 by 1;thins 2;foggy 10;wind 1;trade a at 1 0 from " + from + " to " + to
                    + " pays 5;trade b at 1 0 from " + from + " to " + to + " pays 7 clear;");
                x.breathe(0, 0, 0, 32);
                x.breathe(1, 0, 0, 3);
                boolean allFoggy = true;
                boolean allClear = true;
                for (int hours = from; hours <= to; hours++) {
                    boolean isFoggy = x.later(1, 0, hours) >= 10;
                    allFoggy &= isFoggy;
                    allClear &= !isFoggy;
                }
                String what = "from " + from + " to " + to;
                Kit.due(what, x.served(), (allFoggy ? 1 : 0) + (allClear ? 2 : 0));
                Kit.due(what, x.paid(), (allFoggy ? 5 : 0) + (allClear ? 7 : 0));
            }
        }
        FogKeys now = Kit.ported("port 1 by 1;thins 9;foggy 9;trade a at 0 0 from 1 to 1 pays 3;trade b at 0 0 from 1 to 1 pays 4 clear;");
        now.breathe(0, 0, 0, 17);
        Kit.due("foggy now, not at the end of hour 1", now.served(), 2);
        now.breathe(0, 0, 0, 1);
        Kit.due("foggy then", now.served(), 1);
    }

    // "(1 to 24)".
    private static void servedAtHoursOneAndTwentyFour() {
        FogKeys x = Kit.ported("port 1 by 1;gate a at 0 0 lets 1 open;thins 0;foggy 24;"
            + "trade t at 0 0 from 1 to 23 pays 1 clear;trade u at 0 0 from 24 to 24 pays 2;"
            + "trade v at 0 0 from 1 to 24 pays 4 clear;trade w at 0 0 from 23 to 24 pays 8;");
        Kit.due("served()", x.served(), 3);
        Kit.due("paid()", x.paid(), 3);
        x.hour(1);
        Kit.due("an hour later", x.served(), 10);
        Kit.due("an hour later", x.paid(), 10);
    }

    // "PLAN" where there is nothing to choose, or nothing to be paid.
    private static void planOfNothing() {
        FogKeys x = Kit.ported("port 1 by 1;");
        Kit.due("no gates, no trades", x.plan(), 0);
        Kit.due("no gates, no trades", x.planSet(), 0);
        Kit.due("no gates, no trades", x.turn(1), 0);
        Kit.due("no gates, no trades", x.turnSet(1, 0) + x.turnSet(1, 1), 0);
        FogKeys gates = Kit.ported("port 1 by 1;gate a at 0 0 lets 40 open;gate b at 0 0 lets 40 open;");
        Kit.due("no trades", gates.plan(), 0);
        Kit.due("no trades: none is open", gates.planSet(), 0);
        Kit.due("no trades: none is open", gates.turnSet(23, 0) + gates.turnSet(23, 1), 0);
        FogKeys trades = Kit.ported("port 1 by 1;trade a at 0 0 from 1 to 24 pays 99 clear;");
        Kit.due("no gates", trades.plan(), 99);
        Kit.due("no gates", trades.turn(23), 99);
        FogKeys never = Kit.ported("port 1 by 1;gate a at 0 0 lets 1 open;trade t at 0 0 from 1 to 1 pays 9;");
        Kit.due("none can be served", never.plan(), 0);
        Kit.due("none can be served", never.planSet(), 0);
        Kit.due("none can be served", never.turn(12), 0);
        Kit.due("none can be served", never.turnSet(12, 0) + never.turnSet(12, 1), 0);
    }

    private static FogKeys levers(String lets, String rest) {
        StringBuilder text = new StringBuilder("port 1 by 1;thins 0;");
        String[] each = lets.split(" ");
        for (int i = 0; i < each.length; i++) {
            text.append("gate ").append((char) ('a' + i)).append(" at 0 0 lets ").append(each[i]).append(';');
        }
        return Kit.ported(text + rest);
    }

    // "of several the fewest GATES, then the least number".
    private static void planOfTies() {
        String hour = "trade t at 0 0 from 1 to 1 pays 3;";
        Kit.due("one rather than two of a lesser number", levers("5 5 10", "foggy 10;" + hour).planSet(), 4);
        Kit.due("the least of two ones", levers("1 10 10", "foggy 10;" + hour).planSet(), 2);
        Kit.due("the least of pairs", levers("4 5 5 5", "foggy 10;" + hour).planSet(), 6);
        Kit.due("the least pair of alike ones", levers("5 5 5 5", "foggy 10;" + hour).planSet(), 3);
        Kit.due("all six", levers("2 2 2 2 2 1", "foggy 11;" + hour).planSet(), 63);
        Kit.due("the sixth alone", levers("1 1 1 1 1 40", "foggy 40;" + hour).planSet(), 32);
        FogKeys more = levers("10 20", "foggy 10;" + hour + "trade u at 0 0 from 1 to 1 pays 4;trade v at 0 0 from 2 to 2 pays 8 clear;");
        Kit.due("what pays the most", more.plan(), 8);
        Kit.due("what pays the most", more.planSet(), 0);
        Kit.due("what is open now is not asked", more.many(10), 0);
    }

    // "TURN h (1 to 23): two sets, one for the first h HOURS, the other from then on".
    private static void turnOfOneAndTwentyThree() {
        FogKeys x = levers("40", "foggy 40;trade t at 0 0 from 1 to 1 pays 1;trade u at 0 0 from 2 to 2 pays 2;"
            + "trade v at 0 0 from 1 to 1 pays 4 clear;");
        Kit.due("from hour 2 on", x.turn(1), 6);
        Kit.due("first", x.turnSet(1, 0), 0);
        Kit.due("second", x.turnSet(1, 1), 1);
        FogKeys y = levers("40", "foggy 40;trade t at 0 0 from 23 to 23 pays 1 clear;trade u at 0 0 from 24 to 24 pays 2;");
        Kit.due("hour 24 alone", y.turn(23), 3);
        Kit.due("first", y.turnSet(23, 0), 0);
        Kit.due("second", y.turnSet(23, 1), 1);
        Kit.due("not by hour 22", y.turn(22), 2);
        Kit.due("first", y.turnSet(22, 0), 0);
        Kit.due("second", y.turnSet(22, 1), 1);
    }

    // "the most; of several the first set the least number, then the second."
    private static void turnOfTies() {
        FogKeys x = levers("5 5 10", "foggy 10;trade t at 0 0 from 1 to 1 pays 3;");
        Kit.due("not the fewest: 3 ahead of 4", x.turnSet(1, 0), 3);
        Kit.due("then none", x.turnSet(1, 1), 0);
        FogKeys y = levers("5 5 10", "foggy 10;trade t at 0 0 from 2 to 2 pays 3;");
        Kit.due("first none", y.turnSet(1, 0), 0);
        Kit.due("second 3 ahead of 4", y.turnSet(1, 1), 3);
        FogKeys six = levers("1 1 1 1 1 1", "foggy 6;trade t at 0 0 from 1 to 1 pays 3;trade u at 0 0 from 2 to 2 pays 5 clear;"
            + "trade v at 0 0 from 2 to 2 pays 9;");
        Kit.due("all six, then none", six.turn(1), 12);
        Kit.due("all six", six.turnSet(1, 0), 63);
        Kit.due("then none", six.turnSet(1, 1), 0);
    }

    // "(the first is not asked or counted)".
    private static void wayFromABoardToItself() {
        FogKeys x = Kit.pictured(".#");
        for (int column = 0; column < 2; column++) {
            for (int road = 0; road < 3; road++) {
                Kit.due("from " + column + " to itself by " + road, x.way(column, 0, column, 0, road), 0);
                Kit.due("status()", x.status(), 0);
            }
        }
        Kit.due("clear from foggy", x.way(1, 0, 0, 0, 0), 1);
        Kit.due("foggy from clear", x.way(0, 0, 1, 0, 1), 1);
        Kit.refused("clear to foggy", x, x.way(0, 0, 1, 0, 0), 8);
        Kit.refused("foggy to clear", x, x.way(1, 0, 0, 0, 1), 8);
    }

    // "2 by all: a CLEAR board counts 1, a FOGGY one 3".
    private static void wayByAllCounts() {
        FogKeys x = Kit.pictured(".#.", "...");
        Kit.due("around is as far as through", x.way(0, 0, 2, 0, 2), 4);
        FogKeys y = Kit.pictured(".#.", ".#.", "...");
        Kit.due("through is nearer", y.way(0, 0, 2, 0, 2), 4);
        FogKeys z = Kit.pictured(".##.", "....");
        Kit.due("around is nearer", z.way(0, 0, 3, 0, 2), 5);
        Kit.due("into fog", z.way(0, 0, 2, 0, 2), 6);
        FogKeys whole = Kit.pictured("######", "######", "######", "######", "######");
        Kit.due("the farthest", whole.way(0, 0, 5, 4, 2), 27);
        Kit.due("the farthest by fog", whole.way(5, 0, 0, 4, 1), 9);
    }

    // "0 by CLEAR boards alone, 1 by FOGGY ones alone".
    private static void wayByFogOrClear() {
        FogKeys x = Kit.pictured(
            "......",
            "#####.",
            "......",
            ".#####",
            "......");
        Kit.due("the longest by clear ones", x.way(0, 0, 5, 4, 0), 19);
        Kit.due("and back", x.way(5, 4, 0, 0, 0), 19);
        Kit.refused("none by fog", x, x.way(0, 0, 5, 4, 1), 8);
        FogKeys y = Kit.pictured(
            "######",
            ".....#",
            "######",
            "#.....",
            "######");
        Kit.due("the longest by foggy ones", y.way(0, 0, 5, 4, 1), 19);
        Kit.due("and back", y.way(5, 4, 0, 0, 1), 19);
        Kit.refused("none by clear ones", y, y.way(0, 0, 5, 4, 0), 8);
    }

    // "a SHIP goes to a board beside it, or stays, in each HOUR".
    private static void sailStaysOrGoes() {
        for (int side = 1; side <= 4; side++) {
            for (int steps = 1; steps <= 2; steps++) {
                FogKeys y = Kit.ported("port 5 by 5;ship a at " + (2 + steps * COLUMNS[side]) + " " + (2 + steps * ROWS[side])
                    + " to 2 2;");
                Kit.due("sail by side " + side, y.sail(0), steps);
            }
        }
        FogKeys far = Kit.ported("port 6 by 5;ship a at 5 0 to 0 4;ship b at 3 3 to 3 3;");
        Kit.due("not across", far.sail(0), 9);
        Kit.due("there", far.sail(1), 0);
        FogKeys there = Kit.pictured("..");
        Kit.due("where it is now is not asked", there.sail(1), 0);
        FogKeys wait = Kit.ported("port 2 by 1;ship a at 0 0 to 1 0;foggy 10;thins 1;");
        wait.breathe(1, 0, 0, 8);
        Kit.due("at once", wait.sail(0), 1);
        wait.sweep(1, 0);
        wait.wind(2);
        wait.breathe(1, 0, 0, 20);
        // 20 less 5, less 1 is 14; then 10; then 7.
        Kit.due("it stays twice", wait.sail(0), 3);
    }

    // "(48 at most)": the fog of a row of boards comes to the last one in just so many HOURS.
    private static void sailOfFortyEight() {
        String front = "port 5 by 1;gate g at 0 0 lets 13 open;thins 3;ship a at 0 0 to 4 0 dark;foggy ";
        int[] due = {47, 48, FogKeys.NONE};
        for (int i = 0; i < 3; i++) {
            FogKeys x = Kit.ported(front + (79 + i) + ";");
            x.breathe(0, 0, 0, 999);
            Kit.due("sail, foggy from " + (79 + i), x.sail(0), due[i]);
            Kit.due("status()", x.status(), i < 2 ? 0 : 8);
        }
    }

    // "on one of which at least each road of FOGGY boards between them comes": none where there is no road.
    private static void watchOfNothing() {
        FogKeys x = Kit.pictured("......", "......", "......");
        Kit.due("all clear", x.watch(0, 0, 5, 2), 0);
        FogKeys y = Kit.pictured("#.#");
        Kit.due("the board between is clear", y.watch(0, 0, 2, 0), 0);
        FogKeys z = Kit.pictured(".#.");
        Kit.due("the two themselves are not asked", z.watch(0, 0, 2, 0), 1);
        FogKeys across = Kit.pictured(".#", "..");
        Kit.due("across by one board", across.watch(0, 0, 1, 1), 1);
        FogKeys both = Kit.pictured(".#", "#.");
        Kit.due("across by two boards", both.watch(0, 0, 1, 1), 2);
    }

    // "none can do it, if the two are beside each other".
    private static void watchBesideOrOne() {
        FogKeys x = Kit.pictured("###", "###", "###");
        for (int column = 0; column < 3; column++) {
            for (int row = 0; row < 3; row++) {
                int far = Math.abs(column - 1) + Math.abs(row - 1);
                Kit.due("from the middle", x.watch(1, 1, column, row), far < 2 ? -1 : 2);
                Kit.due("status()", x.status(), far < 2 ? 9 : 0);
                Kit.due("to the middle", x.watch(column, row, 1, 1), far < 2 ? -1 : 2);
            }
        }
        FogKeys around = Kit.pictured("###", "###");
        Kit.due("the last of a row is not beside the first of the next", around.watch(2, 0, 0, 1), 2);
    }

    /** Whether some road of foggy boards goes on from a board, none of them watched. */
    private static boolean joins(boolean[] usable, int wide, int deep, int at, int to, boolean[] seen) {
        seen[at] = true;
        for (int side = 1; side <= 4; side++) {
            int column = at % wide + COLUMNS[side];
            int row = at / wide + ROWS[side];
            int other = row * wide + column;
            if (column < 0 || column >= wide || row < 0 || row >= deep) {
                continue;
            }
            if (other == to || usable[other] && !seen[other] && joins(usable, wide, deep, other, to, seen)) {
                return true;
            }
        }
        return false;
    }

    // "WATCH: the fewest boards", by all pictures of 3 by 3 from corner to corner, and side to side.
    private static void watchAgainstAllSets() {
        int[][] ends = {{0, 8}, {1, 7}, {2, 3}, {6, 5}};
        for (int picture = 0; picture < 512; picture += 3) {
            String[] rows = {"", "", ""};
            for (int i = 0; i < 9; i++) {
                rows[i / 3] += (picture >> i & 1) == 1 ? "#" : ".";
            }
            FogKeys x = Kit.pictured(rows);
            for (int[] end : ends) {
                int least = 9;
                for (int watched = 0; watched < 512; watched++) {
                    if ((watched & ~picture) != 0 || (watched >> end[0] & 1) == 1 || (watched >> end[1] & 1) == 1) {
                        continue;
                    }
                    boolean[] usable = new boolean[9];
                    for (int i = 0; i < 9; i++) {
                        usable[i] = (picture >> i & 1) == 1 && (watched >> i & 1) == 0;
                    }
                    if (!joins(usable, 3, 3, end[0], end[1], new boolean[9])) {
                        least = Math.min(least, Integer.bitCount(watched));
                    }
                }
                Kit.due("picture " + picture + " from " + end[0] + " to " + end[1],
                    x.watch(end[0] % 3, end[0] / 3, end[1] % 3, end[1] / 3), least);
            }
        }
    }

    private static String[] mirrored(String[] rows) {
        String[] other = new String[rows.length];
        for (int i = 0; i < rows.length; i++) {
            other[i] = new StringBuilder(rows[i]).reverse().toString();
        }
        return other;
    }

    private static String[] transposed(String[] rows) {
        String[] other = new String[rows[0].length()];
        for (int i = 0; i < other.length; i++) {
            StringBuilder row = new StringBuilder();
            for (String told : rows) {
                row.append(told.charAt(i));
            }
            other[i] = row.toString();
        }
        return other;
    }

    private static int[] endsOf(String[] rows) {
        int[] ends = new int[4];
        for (int row = 0; row < rows.length; row++) {
            for (int column = 0; column < rows[row].length(); column++) {
                char sign = rows[row].charAt(column);
                if (sign == 'A' || sign == 'B') {
                    ends[(sign - 'A') * 2] = column;
                    ends[(sign - 'A') * 2 + 1] = row;
                }
            }
        }
        return ends;
    }

    // WATCH where roads that are found first must be given up in part: as many boards however the picture is turned.
    private static void watchHoweverTurned() {
        String[][] pictures = {
            {".#B", "A##", "###"},
            {"#B.", "###", "##A"},
            {"#B###", "#.#.#", "####A"},
            {"#####.", "#.B##.", "####A#"},
            {"###.##", "###.##", "#.##A#", "#B####", "######"},
            {"####", ".B##", "####", "A###", "##.#"},
            {"#####", "#A###", "#####", "###B#", "#####"}};
        int[] due = {2, 2, 2, 2, 3, 2, 4};
        for (int i = 0; i < pictures.length; i++) {
            String[] rows = pictures[i];
            for (int turn = 0; turn < 8; turn++) {
                rows = turn % 2 == 0 ? transposed(rows) : mirrored(rows);
                if (rows.length > 5) {
                    continue;
                }
                int[] ends = endsOf(rows);
                FogKeys x = Kit.pictured(rows);
                Kit.due("picture " + i + " turned " + turn, x.watch(ends[0], ends[1], ends[2], ends[3]), due[i]);
                Kit.due("from the other end", x.watch(ends[2], ends[3], ends[0], ends[1]), due[i]);
            }
        }
    }

    // "a set of HOLDERS whose VOTES are no less than the QUOTA".
    private static void quotaJustReached() {
        for (int quota = 1; quota <= 8; quota++) {
            FogKeys x = Kit.ported("port 1 by 1;gate g at 0 0 lets 1 quota " + quota + ";holder a votes 1;holder b votes 2;"
                + "holder c votes 4;");
            for (int set = 0; set < 8; set++) {
                int is = set >= quota ? 1 : 0;
                Kit.due("together of " + set + " by " + quota, x.together(0, set), is);
                Kit.due("reach of " + set + " by " + quota, x.reach(set), is);
                FogKeys y = Kit.ported("port 1 by 1;gate g at 0 0 lets 1 quota " + quota + ";holder a votes 1;holder b votes 2;"
                    + "holder c votes 4;");
                Kit.due("openBy of " + set + " by " + quota, y.openBy(0, set), is == 1);
                Kit.due("many(10)", y.many(10), is);
            }
        }
        FogKeys most = Kit.ported("port 1 by 1;gate g at 0 0 lets 1 quota 99;holder a votes 20;holder b votes 20;holder c votes 20;"
            + "holder d votes 20;holder e votes 19;");
        Kit.due("99 of 99", most.together(0, 31), 1);
        Kit.due("fewest", most.fewest(0), 5);
        Kit.due("80 of 99", most.together(0, 15), 0);
    }

    private static FogKeys council(int quota, int... votes) {
        StringBuilder text = new StringBuilder("port 1 by 1;gate g at 0 0 lets 1 quota " + quota + ";");
        for (int i = 0; i < votes.length; i++) {
            text.append("holder ").append((char) ('h' + i)).append(" votes ").append(votes[i]).append(';');
        }
        return Kit.ported(text.toString());
    }

    // "by all orders": of so many who are alike each has as much, one alone has all, and none has none.
    private static void powerOfOneToSix() {
        for (int n = 1; n <= 6; n++) {
            int[] alike = new int[n];
            Arrays.fill(alike, 3);
            for (int quota = 1; quota <= 3 * n; quota++) {
                FogKeys x = council(quota, alike);
                for (int i = 0; i < n; i++) {
                    Kit.fraction("power of one of " + n + " by " + quota, x, x.power(0, i), 1, n);
                }
            }
            int[] one = new int[n];
            Arrays.fill(one, 1);
            one[n - 1] = 20;
            FogKeys last = council(20, one);
            for (int i = 0; i < n; i++) {
                Kit.fraction("power of the last alone", last, last.power(0, i), i == n - 1 ? 1 : 0, 1);
            }
            one[n - 1] = 1;
            one[0] = n + 1;
            FogKeys first = council(n + 1, one);
            for (int i = 0; i < n; i++) {
                Kit.fraction("power of the first alone", first, first.power(0, i), i == 0 ? 1 : 0, 1);
            }
        }
        FogKeys most = council(21, 20, 1, 1, 1, 1, 1);
        Kit.fraction("all but when it is first", most, most.power(0, 0), 5, 6);
        Kit.fraction("one of five when it is second", most, most.power(0, 5), 1, 30);
    }

    // "VETO: those without whom all others can't. IDLE: those without POWER."
    private static void vetoAndIdleOfOneToSix() {
        for (int n = 1; n <= 6; n++) {
            int[] one = new int[n];
            Arrays.fill(one, 1);
            int all = (1 << n) - 1;
            FogKeys whole = council(n, one);
            Kit.due("all are needed", whole.veto(0), all);
            Kit.due("none is idle", whole.idle(0), 0);
            Kit.due("fewest are all", whole.fewestSet(0), all);
            if (n > 1) {
                FogKeys less = council(n - 1, one);
                Kit.due("none is needed", less.veto(0), 0);
                Kit.due("none is idle", less.idle(0), 0);
                Kit.due("the least of several", less.fewestSet(0), all >> 1);
                Kit.due("fewest", less.fewest(0), n - 1);
            }
            one[n - 1] = 20;
            FogKeys last = council(20, one);
            Kit.due("the last alone is needed", last.veto(0), 1 << n - 1);
            Kit.due("all others are idle", last.idle(0), all >> 1);
            Kit.due("the last alone", last.fewestSet(0), 1 << n - 1);
            FogKeys beyond = council(20 + n, one);
            Kit.refused("all can't", beyond, beyond.veto(0), 8);
            Kit.refused("all can't", beyond, beyond.idle(0), 8);
            Kit.refused("all can't", beyond, beyond.fewest(0), 8);
            Kit.refused("all can't", beyond, beyond.power(0, 0), 8);
        }
    }

    // "KEYS 0 .. fit one GATE each, none two the same (as many as GATES)".
    private static void keysOfOneToSix() {
        int[] ways = {1, 1, 2, 6, 24, 120, 720};
        for (int gates = 1; gates <= 6; gates++) {
            for (int key = 0; key < gates; key++) {
                for (int gate = 0; gate < gates; gate++) {
                    FogKeys x = Kit.keyed(gates, 100 * key + 10 * gate + 1, 100 * key + 10 * gate);
                    Kit.due("fits", x.fits(0, 1), ways[gates - 1]);
                    Kit.due("known", x.known(key, 0, 1), gate);
                    Kit.due("fits and fits not", x.fits(0, 2), 0);
                    Kit.fraction("chance", x, x.chance(key, gate, 0, 1), 1, 1);
                    Kit.fraction("chance by none", x, x.chance(key, gate, 0, 0), 1, gates);
                    FogKeys not = Kit.keyed(gates, 100 * key + 10 * gate);
                    Kit.due("fits not", not.fits(0, 1), ways[gates] - ways[gates - 1]);
                }
            }
            long[] beyond = {100 * gates, 100 * gates + 1, 10 * gates, 10 * gates + 1, 2, 9, -1, -10, -100};
            for (long v : beyond) {
                FogKeys x = Kit.keyed(gates, v);
                Kit.refused("a number that is no try: " + v, x, x.fits(0, 1), 5);
                Kit.due("not asked", x.fits(0, 0), ways[gates]);
            }
        }
    }

    // "the KEY and the GATE that leave the fewest ways at worst; of several the least KEY, then GATE; none, if there are not two ways".
    private static void nextOfTwoWays() {
        FogKeys two = Kit.keyed(2);
        Kit.due("two ways", two.next(0, 0), 0);
        FogKeys one = Kit.keyed(2, 0);
        Kit.due("one way", one.fits(0, 1), 1);
        Kit.refused("one way", one, one.next(0, 1), 8);
        FogKeys none = Kit.keyed(2, 0, 1);
        Kit.refused("no way", none, none.next(0, 2), 8);
        FogKeys last = Kit.keyed(6, 1, 111, 221, 331);
        Kit.due("the last two", last.next(0, 4), 44);
        FogKeys six = Kit.keyed(6, 551, 441, 331, 110);
        Kit.due("four ways", six.fits(0, 4), 4);
        // Key 0 fits gate 0 in one of these ways, gate 1 in two, gate 2 in one.
        Kit.due("two are left by the least key", six.next(0, 4), 1);
    }
}
