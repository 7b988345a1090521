/** The boundaries that ==== 4 of the document names: the text of NIGHTS, STEPS, draws, MARKS, FRACTIONS. */
public final class NightEdgesTest {
    private static final String PORT = "port 4 by 3;gate sea at 0 0 lets 16 open;gate old at 3 2 lets 8 answers;holder ann votes 4;"
        + "trade wool at 0 0 from 1 to 3 pays 9;ship eel at 0 2 to 3 0;";
    // 299 STEPS, then as many as are told behind them.
    private static final String LONG = "loop 99;wind 0;wind 0;end;loop 99;wind 0;end;";

    public static void main(String[] args) {
        noneAtFirst();
        textsOf300Bytes();
        tokensOfNights();
        hoursOfAStep();
        windsOfAStep();
        timesOfALoop();
        boardsOfATest();
        limitsOfATest();
        comparesOfATest();
        namesAreGates();
        endsHaveBeginnings();
        beginningsHaveEnds();
        thirtySteps();
        endIsNoStep();
        threeDeep();
        stepsAreWholeTexts();
        hoursBeyondAreMissedAsAWhole();
        openOfOpenIsMissed();
        shutOfShutIsMissed();
        windThatBlowsIsMissed();
        missedStepsAreStepsToo();
        whenIsOneStep();
        loopsAreAsOften();
        threeHundredSteps();
        stopLeavesNothing();
        seedsOfLive();
        drawsOfStorms();
        stormsAreNeverMissed();
        allStaysAsItIsLived();
        livedOfTheLatest();
        foggyBoardsOfAllHours();
        seedsOfMean();
        meanLeavesAllAsItIs();
        marksAreThree();
        marksKeepAll();
        marksAreGoneWhenTaken();
        fractionsHaveNoCommonDivisor();
        nothingIsNothingByOne();
        Kit.end();
    }

    private static FogKeys lively(String nights) {
        FogKeys x = Kit.ported(PORT);
        Kit.nights(x, nights);
        Kit.due("nights '" + nights + "': status()", x.status(), 0);
        return x;
    }

    private static void nightsFault(String text, int kind) {
        Kit.nightsFault(Kit.ported(PORT), text, kind);
    }

    // "(none at first)"
    private static void noneAtFirst() {
        FogKeys x = new FogKeys();
        Kit.refused("live", x, x.live(0), 8);
        Kit.refused("mean", x, x.mean(0, 1), 8);
        FogKeys y = Kit.ported(PORT);
        Kit.refused("live", y, y.live(0), 8);
        Kit.nightsFault(y, "stop|", 2);
        Kit.refused("none by a fault", y, y.live(0), 8);
        Kit.due("nights", Kit.nights(y, "stop;"), 1);
        Kit.due("live", y.live(0), 1);
    }

    // "a TEXT of at most 300 bytes"
    private static void textsOf300Bytes() {
        FogKeys x = Kit.ported(PORT);
        String whole = "hour 1;" + " ".repeat(288) + "stop;";
        Kit.due("300 bytes", Kit.nights(x, whole), 2);
        Kit.due("to the last byte", x.live(0), 2);
        Kit.refused("300 bytes", x, Kit.nights(x, "hour 1;" + " ".repeat(289) + "stop"), 10);
        Kit.due("at the end", x.fault(1), 300);
        Kit.feedText(x, whole + " ".repeat(20));
        Kit.refused("301 bytes", x, x.nights(301), 5);
        Kit.refused("320 bytes", x, x.nights(320), 5);
        Kit.due("the tape is as it was", x.nights(300), 2);
        Kit.refused("and is empty then", x, x.nights(1), 5);
        Kit.due("0 bytes", x.nights(0), 0);
        Kit.due("nights of no steps", x.live(0), 0);
        Kit.due("status()", x.status(), 0);
    }

    // "of such TOKENS"
    private static void tokensOfNights() {
        nightsFault("|Hour 1;", 1);
        nightsFault("hour |00001;", 1);
        nightsFault("hour |99999;", 1);
        nightsFault("hour 1|:", 1);
        nightsFault("hour 1;\n|\t", 1);
        nightsFault("when lets 0 0 |! 1;end;", 1);
        nightsFault("|hours 1;", 2);
        nightsFault("|stopstop;", 2);
        nightsFault("when lets 0 0 <|= 1;end;", 2);
        Kit.due("no blanks are wanted", Kit.nights(Kit.ported(PORT), "hour1;wind0;when foggy0 0;end;when lets0 0<1;end;"), 4);
        Kit.due("blanks", Kit.nights(Kit.ported(PORT), "\n hour\n0001 ;\n\nwhen\nlets 0\n0 =\n0999 ; end ;\n"), 2);
        for (String word : "port by gate at lets answers quota holder votes trade from to pays clear ship dark thins foggy".split(" ")) {
            nightsFault("stop; |" + word + " 1;", 2);
        }
    }

    private static void numbers(String front, String behind, int least, int most) {
        for (int v = least; v <= most; v++) {
            Kit.due(front + v, Kit.nights(Kit.ported(PORT), front + v + behind), 1);
        }
        if (least > 0) {
            nightsFault(front + "|" + (least - 1) + behind, 4);
        }
        nightsFault(front + "|" + (most + 1) + behind, 4);
        nightsFault(front + "|9999" + behind, 4);
        nightsFault(front + "|" + behind, 2);
        nightsFault(front + "|sea" + behind, 2);
        nightsFault(front + "|", 2);
    }

    // "hour: so many (1 to 24)"
    private static void hoursOfAStep() {
        numbers("hour ", ";", 1, 24);
        for (int hours : new int[] {1, 24}) {
            FogKeys x = lively("hour " + hours + ";");
            x.live(0);
            Kit.due("hours", x.many(9), hours);
        }
    }

    // "wind: 0 to 4"
    private static void windsOfAStep() {
        numbers("wind ", ";", 0, 4);
        for (int wind = 1; wind <= 4; wind++) {
            FogKeys x = lively("wind " + wind + ";");
            x.live(0);
            Kit.due("wind", x.many(6), wind);
        }
    }

    // "loop n (1 to 99)"
    private static void timesOfALoop() {
        numbers("loop ", ";end;", 1, 99);
    }

    // "(a board: column, row)"
    private static void boardsOfATest() {
        String[] behind = {";end;", " = 0;end;"};
        String[] words = {"when foggy ", "when lets "};
        for (int i = 0; i < 2; i++) {
            Kit.due(words[i], Kit.nights(Kit.ported(PORT), words[i] + "0 0" + behind[i]), 1);
            Kit.due(words[i], Kit.nights(Kit.ported(PORT), words[i] + "3 2" + behind[i]), 1);
            nightsFault(words[i] + "|4 0" + behind[i], 4);
            nightsFault(words[i] + "3 |3" + behind[i], 4);
            nightsFault(words[i] + "|4 3" + behind[i], 4);
            nightsFault(words[i] + "0 |sea" + behind[i], 2);
            Kit.nightsFault(new FogKeys(), words[i] + "|0 0" + behind[i], 4);
        }
        for (int board = 0; board < 12; board++) {
            FogKeys x = lively("when foggy " + board % 4 + " " + board / 4 + ";stop;end;when lets " + board % 4 + " " + board / 4
                + " = 9;stop;end;");
            for (int other = 0; other < 12; other++) {
                x.breathe(other % 4, other / 4, 0, other == board ? 10 : 9);
            }
            Kit.due("the board alone is foggy", x.live(0), 2);
            x.sweep(board % 4, board / 4);
            Kit.due("the board alone is clear", x.live(0), 2);
            x.breathe(board % 4, board / 4, 1, 9);
            Kit.due("it has 9", x.live(0), 3);
        }
    }

    // "lets: FOG of both KINDS there (0 to 999)"
    private static void limitsOfATest() {
        Kit.due("0", Kit.nights(Kit.ported(PORT), "when lets 0 0 < 0;end;"), 1);
        Kit.due("999", Kit.nights(Kit.ported(PORT), "when lets 0 0 > 999;end;"), 1);
        nightsFault("when lets 0 0 < |1000;end;", 4);
        nightsFault("when lets 0 0 > |1000;end;", 4);
        nightsFault("when lets 0 0 = |9999;end;", 4);
        FogKeys x = lively("when lets 1 1 > 999;stop;end;");
        x.breathe(1, 1, 0, 999);
        Kit.due("999 are not above 999", x.live(0), 1);
        x.breathe(1, 1, 1, 1);
        Kit.due("1,000 of both kinds are", x.live(0), 2);
    }

    // "COMPARES: < or > or ="
    private static void comparesOfATest() {
        char[] signs = {'<', '>', '='};
        for (int i = 0; i < 3; i++) {
            for (int much = 0; much <= 14; much++) {
                FogKeys x = lively("when lets 2 1 " + signs[i] + " 7;stop;end;");
                if (much > 0) {
                    x.breathe(2, 1, much % 2, (much + 1) / 2);
                }
                if (much > 1) {
                    x.breathe(2, 1, 1 - much % 2, much / 2);
                }
                boolean holds = i == 0 ? much < 7 : i == 1 ? much > 7 : much == 7;
                Kit.due(much + " " + signs[i] + " 7", x.live(0), holds ? 2 : 1);
            }
        }
        nightsFault("when lets 0 0 |7;end;", 2);
        nightsFault("when lets 0 0 |; 7;end;", 2);
        nightsFault("when lets 0 0 |open 7;end;", 2);
        // Numbers that are the bytes of these signs.
        nightsFault("when lets 0 0 |60 7;end;", 2);
        nightsFault("when lets 0 0 |61 7;end;", 2);
        nightsFault("when lets 0 0 |62 7;end;", 2);
    }

    // "3 a NAME that is no GATE."
    private static void namesAreGates() {
        String[] fronts = {"open ", "shut ", "when open "};
        for (String front : fronts) {
            for (String name : new String[] {"ann", "wool", "eel", "nobody", "se", "seas", "s", "abcdefgh"}) {
                nightsFault(front + "|" + name + ";", 3);
            }
            for (String name : new String[] {"abcdefghi", "gate", "open", "end", "12", ";"}) {
                nightsFault(front + "|" + name + ";", 2);
            }
            Kit.nightsFault(Kit.ported("port 1 by 1;"), front + "|sea;", 3);
            Kit.nightsFault(new FogKeys(), front + "|sea;", 3);
        }
        // The last of as many names as there can be.
        StringBuilder text = new StringBuilder("port 1 by 1;");
        String[] kinds = {"holder h", "trade t", "ship s", "gate g"};
        String[] rests = {" votes 1;", " at 0 0 from 1 to 1 pays 1;", " at 0 0 to 0 0;", " at 0 0 lets 1;"};
        for (int kind = 0; kind < 4; kind++) {
            for (int i = 0; i < (kind == 2 ? 4 : 6); i++) {
                text.append(kinds[kind]).append((char) ('a' + i)).append(rests[kind]);
            }
        }
        FogKeys full = Kit.ported(text.toString());
        for (int i = 0; i < 6; i++) {
            Kit.due("one of 22 names", Kit.nights(full, "open g" + (char) ('a' + i) + ";"), 1);
            full.live(0);
            Kit.due("that gate", full.many(10), (2 << i) - 1);
        }
        // Names of a port that is there no more are no gates.
        FogKeys x = Kit.ported(PORT);
        Kit.port(x, "port 1 by 1;gate new at 0 0 lets 1;");
        Kit.nightsFault(x, "open |sea;", 3);
        Kit.nightsFault(x, "open |old;", 3);
        Kit.due("of this port", Kit.nights(x, "open new;"), 1);
    }

    // "(an end without a beginning ..: 2)"
    private static void endsHaveBeginnings() {
        nightsFault("|end;", 2);
        nightsFault("stop;|end;", 2);
        nightsFault("loop 1;end;|end;", 2);
        nightsFault("loop 1;when open sea;end;end; |end", 2);
        nightsFault("stop;".repeat(30) + "|end;", 2);
    }

    // "the text's end ahead of an end: 2"
    private static void beginningsHaveEnds() {
        nightsFault("loop 1;|", 2);
        nightsFault("when foggy 0 0; \n|", 2);
        nightsFault("loop 1;loop 1;end;|", 2);
        nightsFault("loop 1;loop 1;loop 1;end;end;stop;|", 2);
        nightsFault("loop 1;end|", 2);
        nightsFault("loop 1;" + " ".repeat(293) + "|", 2);
    }

    // "6 a 31st STEP (at its WORD"
    private static void thirtySteps() {
        String[] steps = {"hour 1;", "open sea;", "shut sea;", "wind 1;", "storm;", "stop;", "loop 1;end;", "when open sea;end;"};
        for (int many = 28; many <= 30; many++) {
            Kit.due("so many steps", Kit.nights(Kit.ported(PORT), "stop;".repeat(many)), many);
        }
        for (String step : steps) {
            Kit.due("the 30th", Kit.nights(Kit.ported(PORT), "stop;".repeat(29) + step), 30);
            nightsFault("stop;".repeat(30) + " |" + step, 6);
            nightsFault("stop;".repeat(30) + "|" + step.split("[ ;]")[0], 6);
        }
        // Within a loop, and behind one.
        nightsFault("loop 1;" + "stop;".repeat(29) + "|stop;end;", 6);
        nightsFault("loop 1;end;" + "stop;".repeat(29) + "|stop;", 6);
    }

    // "end is none"
    private static void endIsNoStep() {
        StringBuilder text = new StringBuilder();
        for (int i = 0; i < 10; i++) {
            text.append("loop 1;loop 1;loop 1;end;end;end;");
        }
        String thirty = text.toString().replace(" ", "");
        Kit.due("30 with 30 ends", Kit.nights(Kit.ported(PORT), thirty), 30);
        Kit.due("an end behind the 30th", Kit.nights(Kit.ported(PORT), "loop 1;" + "stop;".repeat(29) + "end;"), 30);
        FogKeys x = Kit.ported(PORT);
        Kit.nights(x, thirty);
        Kit.due("live", x.live(0), 30);
    }

    // "7 a when, loop within three others (at its WORD)."
    private static void threeDeep() {
        String[] words = {"loop 1;", "when open sea;"};
        for (int i = 0; i < 8; i++) {
            String three = words[i & 1] + words[i >> 1 & 1] + words[i >> 2 & 1];
            Kit.due("three", Kit.nights(Kit.ported(PORT), three + "stop;end;end;end;"), 4);
            nightsFault(three + "|loop 1;", 7);
            nightsFault(three + "stop; |when open sea;end;end;end;end;", 7);
            nightsFault(three + "|when", 7);
            Kit.due("three again", Kit.nights(Kit.ported(PORT), three + "end;loop 1;end;end;when open sea;loop 1;end;end;end;"), 6);
        }
        nightsFault("loop 1;loop 1;loop 1;|loop 0;", 7);
    }

    // Each STEP ends by a semicolon, and has nothing more.
    private static void stepsAreWholeTexts() {
        String[] steps = {"hour 1", "open sea", "shut sea", "wind 1", "storm", "stop", "loop 1", "when foggy 0 0", "when open sea",
            "when lets 0 0 < 1", "loop 1;end"};
        for (String step : steps) {
            nightsFault(step + "|", 2);
            nightsFault(step + " |stop;", 2);
            nightsFault(step + " |1;", 2);
            nightsFault(step + " |59 ;", 2);
            nightsFault(step + " |sea;", 2);
            nightsFault(step + " |<", 2);
        }
        nightsFault("when |shut sea;end;", 2);
        nightsFault("when |;", 2);
        nightsFault("when |", 2);
        nightsFault("|;", 2);
        nightsFault("|1", 2);
    }

    private static FogKeys atHour(int hour, String nights) {
        FogKeys x = lively(nights);
        for (int left = hour; left > 0; left -= Math.min(48, left)) {
            x.hour(Math.min(48, left));
        }
        Kit.due("the hour", x.many(9), hour);
        return x;
    }

    // "What can't be is MISSED: HOURS beyond 9,999 (as a whole)"
    private static void hoursBeyondAreMissedAsAWhole() {
        FogKeys x = atHour(9975, "hour 24;");
        x.live(0);
        Kit.due("just 9,999", x.many(9), 9999);
        Kit.facts("just 9,999", x, 0, 24);
        FogKeys y = atHour(9976, "hour 24;hour 23;hour 1;");
        int foggy = y.many(13);
        Kit.due("one too many", y.live(0), 3);
        Kit.facts("one too many", y, 2, 23, 23 * foggy, 0, 0);
        Kit.due("the hour", y.many(9), 9999);
        FogKeys z = atHour(9999, "hour 1;hour 24;");
        int wool = z.many(11);
        Kit.due("no hour is left", z.live(0), 2);
        Kit.facts("no hour is left", z, 2, 0, 0, 0, 0);
        Kit.due("none went by", z.many(11), wool);
    }

    // "an open of what is OPEN"
    private static void openOfOpenIsMissed() {
        FogKeys x = lively("open sea;open old;open old;");
        Kit.due("live", x.live(0), 3);
        Kit.facts("open", x, 2);
        Kit.due("many(10)", x.many(10), 3);
    }

    // "a shut of what is shut"
    private static void shutOfShutIsMissed() {
        FogKeys x = lively("shut old;shut sea;shut sea;");
        Kit.due("live", x.live(0), 3);
        Kit.facts("shut", x, 2);
        Kit.due("many(10)", x.many(10), 0);
    }

    // "a wind that blows already"
    private static void windThatBlowsIsMissed() {
        FogKeys x = lively("wind 0;wind 3;wind 3;wind 0;");
        Kit.due("live", x.live(0), 4);
        Kit.facts("wind", x, 2);
        Kit.due("many(6)", x.many(6), 0);
    }

    // "how many STEPS were come to, MISSED ones, too"
    private static void missedStepsAreStepsToo() {
        FogKeys x = lively("loop 50;open sea;end;");
        Kit.due("live", x.live(0), 51);
        Kit.facts("missed", x, 50, 0, 0, 0, 0);
    }

    // "(when, loop count as one each time they are come to from ahead; end does not)"
    private static void whenIsOneStep() {
        Kit.due("a when that holds", lively("when open sea;end;").live(0), 1);
        Kit.due("a when that does not", lively("when open old;stop;stop;end;").live(0), 1);
        Kit.due("what is behind it", lively("when open old;stop;end;stop;").live(0), 2);
        Kit.due("a when each time", lively("loop 5;when open old;stop;end;end;").live(0), 6);
        FogKeys x = lively("loop 99;stop;end;");
        x.live(0);
        Kit.nights(x, "when open sea;wind 1;end;");
        Kit.due("once where a loop stood", x.live(0), 2);
        Kit.due("within one that does not hold", lively("when open old;when open sea;end;loop 9;end;end;stop;").live(0), 2);
    }

    // "loop n (1 to 99): as often"
    private static void loopsAreAsOften() {
        for (int n = 1; n <= 99; n++) {
            Kit.due("loop " + n, lively("loop " + n + ";wind 0;end;").live(0), 1 + n);
        }
        Kit.due("a loop of nothing", lively("loop 99;end;").live(0), 1);
        Kit.due("loops in loops", lively("loop 3;loop 4;loop 5;wind 0;end;end;end;").live(0), 1 + 3 * (1 + 4 * (1 + 5)));
        FogKeys x = lively("loop 2;loop 3;hour 1;end;hour 2;end;hour 4;");
        Kit.due("live", x.live(0), 1 + 2 * (1 + 3 + 1) + 1);
        Kit.due("hours", x.many(9), 14);
    }

    // "At most 300 STEPS"; "1 if a STEP was left to be done (by the 300 alone"
    private static void threeHundredSteps() {
        String[] behind = {"", "wind 0;", "wind 0;wind 0;", "loop 99;end;", "loop 99;end;wind 0;", "loop 1;wind 0;end;",
            "when open old;wind 0;end;", "when open sea;wind 0;end;", "when open sea;end;", "when open old;wind 0;end;wind 0;"};
        int[] left = {0, 0, 1, 0, 1, 1, 0, 1, 0, 1};
        for (int i = 0; i < behind.length; i++) {
            FogKeys x = lively(LONG + behind[i]);
            Kit.due("live of " + behind[i], x.live(0), i == 0 ? 299 : 300);
            Kit.due("lived(4) of " + behind[i], x.lived(4), left[i]);
        }
        FogKeys x = lively("loop 2;" + LONG + "end;");
        Kit.due("a loop that is not at its end", x.live(0), 300);
        Kit.due("lived(4)", x.lived(4), 1);
        FogKeys y = lively("loop 1;" + LONG + "end;");
        Kit.due("a loop that is at its end", y.live(0), 300);
        Kit.due("lived(4)", y.lived(4), 0);
        FogKeys z = lively("loop 1;loop 99;hour 24;storm;end;loop 99;hour 1;end;hour 2;end;");
        Kit.due("what is left is not done", z.live(0), 300);
        Kit.facts("left", z, 0, 99 * 24 + 99, z.lived(2), 99, 1);
        Kit.due("the hour", z.many(9), 99 * 24 + 99);
    }

    // "not by stop"
    private static void stopLeavesNothing() {
        FogKeys x = lively("stop;wind 1;");
        Kit.due("stop", x.live(0), 1);
        Kit.due("lived(4)", x.lived(4), 0);
        Kit.due("nothing behind it", x.many(6), 0);
        FogKeys y = lively("loop 9;when open sea;stop;end;end;wind 1;");
        Kit.due("stop within", y.live(0), 3);
        Kit.due("lived(4)", y.lived(4), 0);
        FogKeys z = lively(LONG + "stop;wind 0;");
        Kit.due("stop is the 300th", z.live(0), 300);
        Kit.due("lived(4)", z.lived(4), 0);
        FogKeys w = lively(LONG + "wind 0;stop;");
        Kit.due("stop is the 301st", w.live(0), 300);
        Kit.due("lived(4)", w.lived(4), 1);
    }

    // "LIVED by a seed (0 to 9,999)"
    private static void seedsOfLive() {
        FogKeys x = lively("storm;");
        Kit.due("live(0)", x.live(0), 1);
        Kit.due("live(9999)", x.live(9999), 1);
        for (int seed : new int[] {-1, 10000, Integer.MIN_VALUE, Integer.MAX_VALUE}) {
            Kit.refused("live(" + seed + ")", x, x.live(seed), 5);
        }
    }

    private static int next(int s) {
        return (s * 2971 + 10667) % 65536;
    }

    // "Draws: s, at first the seed, becomes .."; "the WIND is another one by a draw by 5, and each GATE, by numbers, .. by a draw by 2"
    private static void drawsOfStorms() {
        for (int seed = 0; seed <= 9999; seed += 101) {
            FogKeys x = Kit.ported("port 1 by 1;gate a at 0 0 lets 1;gate b at 0 0 lets 1;gate c at 0 0 lets 1;gate d at 0 0 lets 1;"
                + "gate e at 0 0 lets 1;gate f at 0 0 lets 1;");
            Kit.nights(x, "loop 3;storm;end;");
            Kit.due("live", x.live(seed), 4);
            int s = seed;
            int wind = 0;
            int open = 0;
            for (int i = 0; i < 3; i++) {
                s = next(s);
                wind = s / 8 % 5;
                open = 0;
                for (int gate = 0; gate < 6; gate++) {
                    s = next(s);
                    open |= s / 8 % 2 << gate;
                }
            }
            Kit.due("wind by " + seed, x.many(6), wind);
            Kit.due("gates by " + seed, x.many(10), open);
            Kit.facts("storms by " + seed, x, 0, 0, 0, 3, 0);
        }
        // Without gates the draws are of winds alone.
        FogKeys none = Kit.ported("port 1 by 1;");
        Kit.nights(none, "storm;storm;");
        none.live(7);
        Kit.due("the second wind", none.many(6), next(next(7)) / 8 % 5);
    }

    // A storm that draws what is there already is no MISSED one.
    private static void stormsAreNeverMissed() {
        FogKeys x = lively("storm;");
        for (int i = 0; i < 3; i++) {
            x.live(5);
            Kit.facts("storm", x, 0, 0, 0, 1, 0);
        }
    }

    // "all is as it becomes by it, and stays so"
    private static void allStaysAsItIsLived() {
        FogKeys x = lively("hour 3;wind 2;open old;hour 1;");
        x.live(0);
        FogKeys y = Kit.ported(PORT);
        y.hour(3);
        y.wind(2);
        y.open(1, true);
        y.hour(1);
        for (int what = 0; what < 14; what++) {
            Kit.due("many(" + what + ")", x.many(what), y.many(what));
        }
        for (int board = 0; board < 12; board++) {
            Kit.due("wool", x.fog(board % 4, board / 4, 0), y.fog(board % 4, board / 4, 0));
            Kit.due("answers", x.fog(board % 4, board / 4, 1), y.fog(board % 4, board / 4, 1));
        }
    }

    // "Of live() latest with STATUS 0, whatever came since"
    private static void livedOfTheLatest() {
        FogKeys x = lively("hour 2;storm;");
        Kit.refused("there was none", x, x.lived(0), 8);
        x.live(-1);
        Kit.refused("there was none with status 0", x, x.lived(0), 8);
        x.mark();
        x.live(1);
        Kit.facts("live", x, 0, 2, x.lived(2), 1, 0);
        Kit.nights(x, "hour 3;wind 9;");
        x.live(10000);
        x.mean(0, 20);
        x.back();
        Kit.facts("whatever came since", x, 0, 2, x.lived(2), 1, 0);
        Kit.port(x, "port 1 by 1;");
        x.live(0);
        Kit.facts("a live with status 8", x, 0, 2, x.lived(2), 1, 0);
        Kit.nights(x, "");
        x.live(0);
        Kit.facts("of no steps", x, 0, 0, 0, 0, 0);
        for (int what : new int[] {-1, 5, Integer.MIN_VALUE, Integer.MAX_VALUE}) {
            Kit.refused("lived(" + what + ")", x, x.lived(what), 5);
        }
        FogKeys none = new FogKeys();
        Kit.refused("5 ahead of 8", none, none.lived(5), 5);
    }

    // "how many boards were FOGGY at the end of these HOURS, together"
    private static void foggyBoardsOfAllHours() {
        FogKeys x = lively("hour 5;loop 3;hour 2;end;storm;hour 24;");
        FogKeys y = lively("stop;");
        int sum = 0;
        for (int i = 0; i < 11; i++) {
            y.hour(1);
            sum += y.many(13);
        }
        int s = next(3);
        y.wind(s / 8 % 5);
        s = next(s);
        y.open(0, s / 8 % 2 == 1);
        s = next(s);
        y.open(1, s / 8 % 2 == 1);
        for (int i = 0; i < 24; i++) {
            y.hour(1);
            sum += y.many(13);
        }
        x.live(3);
        Kit.facts("together", x, 0, 35, sum, 1, 0);
        FogKeys same = Kit.ported("port 2 by 1;gate a at 0 0 lets 40 open;thins 0;foggy 9;");
        Kit.nights(same, "hour 24;hour 24;");
        for (int i = 0; i < 40; i++) {
            same.hour(48);
        }
        same.live(0);
        Kit.facts("hours that change nothing count too", same, 0, 48, 96, 0, 0);
        FogKeys missed = atHour(9999, "hour 1;");
        missed.live(0);
        Kit.facts("missed ones don't count", missed, 1, 0, 0, 0, 0);
    }

    // "by so many seeds (1 to 20) from one on", "(5: the last above 9,999, too"
    private static void seedsOfMean() {
        FogKeys x = lively("storm;hour 9;");
        for (int many : new int[] {0, -1, 21, Integer.MIN_VALUE, Integer.MAX_VALUE}) {
            Kit.refused("many " + many, x, x.mean(0, many), 5);
        }
        for (int seed : new int[] {-1, 10000, Integer.MIN_VALUE, Integer.MAX_VALUE}) {
            Kit.refused("seed " + seed, x, x.mean(seed, 1), 5);
        }
        for (int many = 1; many <= 20; many++) {
            Kit.due("the last is 9,999", x.mean(10000 - many, many), true);
            Kit.due("the first is 0", x.mean(0, many), true);
            if (many < 20) {
                Kit.refused("the last is 10,000", x, x.mean(10000 - many, many + 1), 5);
            }
        }
        for (int seed = 0; seed < 20; seed++) {
            int sum = 0;
            for (int i = 0; i <= seed; i++) {
                FogKeys y = lively("storm;hour 9;");
                y.live(i + 40);
                sum += y.many(13);
            }
            x.mean(40, seed + 1);
            Kit.due("mean by " + (seed + 1), x.top() * (seed + 1), sum * x.bottom());
        }
    }

    // "(all stays as it is)"
    private static void meanLeavesAllAsItIs() {
        FogKeys x = lively("hour 2;storm;hour 9;");
        FogKeys y = lively("hour 2;storm;hour 9;");
        x.live(3);
        y.live(3);
        x.mean(0, 20);
        for (int what = 0; what < 14; what++) {
            Kit.due("many(" + what + ")", x.many(what), y.many(what));
        }
        for (int what = 0; what < 5; what++) {
            Kit.due("lived(" + what + ")", x.lived(what), y.lived(what));
        }
        Kit.due("live", x.live(8), y.live(8));
        Kit.due("as without it", x.many(11), y.many(11));
        Kit.refused("no marks", x, x.back(), 8);
    }

    // "MARKS, at most 3"
    private static void marksAreThree() {
        FogKeys x = new FogKeys();
        Kit.refused("none at first", x, x.back(), 8);
        for (int round = 0; round < 3; round++) {
            for (int i = 1; i <= 3; i++) {
                Kit.due("mark()", x.mark(), i);
            }
            Kit.refused("a fourth", x, x.mark(), 7);
            for (int i = 2; i >= 0; i--) {
                Kit.due("back()", x.back(), i);
            }
            Kit.refused("none is left", x, x.back(), 8);
        }
    }

    private static void look(String what, FogKeys x, int... due) {
        for (int i = 0; i < due.length; i++) {
            Kit.due(what + ": many(" + i + ")", x.many(i), due[i]);
        }
    }

    // "the PORT with all that became of it, the NIGHTS are kept as they are"
    private static void marksKeepAll() {
        FogKeys x = Kit.ported(PORT + "wind 1;thins 2;foggy 3;");
        Kit.nights(x, "hour 1;hour 2;stop;");
        x.breathe(1, 1, 1, 77);
        x.hour(2);
        x.tow(0, 2, 2);
        x.mark();
        int wool = x.many(11);
        int answers = x.many(12);
        int foggy = x.many(13);
        Kit.port(x, "port 6 by 5;holder sea votes 20;");
        Kit.nights(x, "stop;");
        x.breathe(5, 4, 0, 999);
        Kit.due("back()", x.back(), 0);
        look("back", x, 4, 3, 2, 1, 1, 1, 1, 2, 3, 2, 1, wool, answers, foggy);
        int[] ship = {2, 2, 3, 0, 0};
        int[] gate = {3, 2, 8, 1, 1};
        int[] trade = {0, 0, 1, 3, 9, 0};
        for (int what = 0; what < 5; what++) {
            Kit.due("ship", x.ship(0, what), ship[what]);
            Kit.due("gate", x.gate(1, what), gate[what]);
            Kit.due("trade", x.trade(0, what), trade[what]);
        }
        Kit.due("votes", x.votes(0), 4);
        Kit.due("names of gates", Kit.nights(x, "shut sea;shut old;"), 2);
        FogKeys y = Kit.ported(PORT);
        Kit.nights(y, "hour 1;hour 2;stop;");
        y.mark();
        Kit.nights(y, "stop;");
        y.back();
        Kit.due("the nights", y.live(0), 3);
        FogKeys z = Kit.ported(PORT);
        z.mark();
        Kit.nights(z, "stop;");
        z.back();
        Kit.refused("no nights then", z, z.live(0), 8);
        FogKeys none = new FogKeys();
        none.mark();
        Kit.port(none, PORT);
        none.back();
        look("no port then", none, 0, 0, 0, 0, 0, 0, 0, 1, 10, 0, 0, 0, 0, 0);
    }

    // "all is taken back to the latest MARK, which is gone then"
    private static void marksAreGoneWhenTaken() {
        FogKeys x = Kit.ported(PORT);
        x.mark();
        x.hour(1);
        x.mark();
        x.hour(2);
        x.mark();
        x.hour(4);
        x.back();
        Kit.due("the latest", x.many(9), 3);
        x.hour(8);
        Kit.due("another third", x.mark(), 3);
        x.hour(16);
        x.back();
        Kit.due("the latest", x.many(9), 11);
        x.back();
        Kit.due("the second", x.many(9), 1);
        x.back();
        Kit.due("the first", x.many(9), 0);
        Kit.refused("none is left", x, x.back(), 8);
        Kit.due("all is as it was", x.many(9), 0);
    }

    // "FRACTIONS are told by top() and bottom() without a common divisor, the bottom above 0"
    private static void fractionsHaveNoCommonDivisor() {
        FogKeys x = Kit.ported("port 6 by 5;");
        Kit.nights(x, "");
        for (int boards = 1; boards <= 30; boards++) {
            x.breathe((boards - 1) % 6, (boards - 1) / 6, 0, 10);
            Kit.fraction("mean of " + boards, x, x.mean(0, 20), boards, 1);
        }
        FogKeys y = Kit.ported("port 1 by 1;gate a at 0 0 lets 40;foggy 1;");
        Kit.nights(y, "storm;hour 1;");
        for (int many = 1; many <= 20; many++) {
            y.mean(500, many);
            long top = y.top();
            long bottom = y.bottom();
            Kit.due("the bottom goes into " + many, many % bottom, 0);
            for (int d = 2; d <= 20; d++) {
                Kit.due("common divisor " + d, top % d == 0 && bottom % d == 0, false);
            }
        }
    }

    // "0 is 0 by 1"
    private static void nothingIsNothingByOne() {
        FogKeys x = new FogKeys();
        Kit.due("at first: top()", x.top(), 0);
        Kit.due("at first: bottom()", x.bottom(), 1);
        FogKeys y = Kit.ported("port 1 by 1;gate a at 0 0 lets 1;gate b at 0 0 lets 1 quota 3;holder c votes 3;holder d votes 1;");
        Kit.fraction("power", y, y.power(0, 0), 1, 2);
        Kit.fraction("power of none", y, y.power(1, 1), 0, 1);
        y.tray(0, 1, 1);
        Kit.fraction("chance", y, y.chance(0, 0, 0, 0), 1, 2);
        Kit.fraction("chance of none", y, y.chance(0, 0, 0, 1), 0, 1);
        Kit.nights(y, "stop;");
        Kit.fraction("chance", y, y.chance(0, 0, 0, 0), 1, 2);
        Kit.fraction("mean of none", y, y.mean(0, 20), 0, 1);
    }
}
