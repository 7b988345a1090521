/** The boundaries that ==== 1 of the document names: TRAYS, TOKENS, each NUMBER and NAME of a PORT, its FAULTS. */
public final class TextEdgesTest {
    private static final String[] KINDS = {"gate", "holder", "trade", "ship"};
    private static final String[] RESTS = {" at 0 0 lets 1;", " votes 1;", " at 0 0 from 1 to 1 pays 1;", " at 0 0 to 0 0;"};
    private static final int[] MOST = {6, 6, 6, 4};
    private static final String RESERVED = "port by gate at lets answers open quota holder votes trade from to pays clear ship dark"
        + " wind thins foggy hour shut storm when loop end stop";

    public static void main(String[] args) {
        traysAreFourAndMissing();
        sortsAreFour();
        numbersAreCutToEightBits();
        numbersAreCutToSixteenBits();
        numbersAreCutToThirtyTwoBits();
        numbersOfSixtyFourBitsAreWhole();
        textsOf900Bytes();
        theTapeHolds900Bytes();
        blanksAreTwo();
        tokensGoAsLongAsTheyGo();
        numbersHaveFourDigits();
        signsAreFour();
        namesHaveEightLetters();
        namesAreNoneOfTheWords();
        namesAreOfOneThingAlone();
        sizesOfAPort();
        boardsOfAPort();
        portIsToldAheadOfAllElse();
        gateNumbers();
        gateMayTellMore();
        holderNumbers();
        tradeNumbers();
        tradeMayTellMore();
        shipMayTellMore();
        windNumbers();
        thinsNumbers();
        foggyNumbers();
        thingsAreSoMany();
        thingsAreNumberedAsTheyStand();
        settingsAreToldOnce();
        theLeastKindOfOneToken();
        theFirstAlongTheText();
        theEndIsTheTextsLength();
        aPortIsInPlaceOfThatAhead();
        aFaultLeavesAllAsItIs();
        Kit.end();
    }

    // "TRAYS, 0 to 3, are MISSING at first".
    private static void traysAreFourAndMissing() {
        FogKeys x = new FogKeys();
        for (int tray = 0; tray <= 3; tray++) {
            Kit.refused("tray " + tray + " is missing", x, x.read(tray, 0), 3);
            Kit.due("tray " + tray, x.tray(tray, 0, 1), true);
            Kit.due("tray " + tray + " is there", x.read(tray, 0), 0);
        }
        for (int tray : new int[] {-1, 4, Integer.MIN_VALUE, Integer.MAX_VALUE}) {
            Kit.refused("tray(" + tray + ", ..)", x, x.tray(tray, 0, 1), 1);
            Kit.refused("read(" + tray + ", 0)", x, x.read(tray, 0), 1);
        }
    }

    // "rows of numbers of 8 bits (sort 0), 16 (1), 32 (2) or 64 (3)".
    private static void sortsAreFour() {
        FogKeys x = new FogKeys();
        for (int sort = 0; sort <= 3; sort++) {
            Kit.due("sort " + sort, x.tray(0, sort, 1), true);
        }
        for (int sort : new int[] {-1, 4, Integer.MIN_VALUE, Integer.MAX_VALUE}) {
            Kit.refused("sort " + sort, x, x.tray(1, sort, 1), 1);
        }
        Kit.refused("none was made", x, x.read(1, 0), 3);
    }

    private static void cut(int sort, long... pairs) {
        FogKeys x = new FogKeys();
        x.tray(2, sort, 1);
        for (int i = 0; i < pairs.length; i += 2) {
            Kit.due("write of " + pairs[i], x.write(2, 0, pairs[i]), true);
            Kit.due("sort " + sort + ", of " + pairs[i], x.read(2, 0), pairs[i + 1]);
            Kit.due("status()", x.status(), 0);
        }
    }

    // "with sign; what is written is cut to these".
    private static void numbersAreCutToEightBits() {
        cut(0, 127, 127, 128, -128, 255, -1, 256, 0, -128, -128, -129, 127, -256, 0, Long.MAX_VALUE, -1, Long.MIN_VALUE, 0);
    }

    private static void numbersAreCutToSixteenBits() {
        cut(1, 32767, 32767, 32768, -32768, 65535, -1, 65536, 0, -32768, -32768, -32769, 32767, Long.MAX_VALUE, -1,
            Long.MIN_VALUE, 0, 128, 128);
    }

    private static void numbersAreCutToThirtyTwoBits() {
        cut(2, 2147483647L, 2147483647L, 2147483648L, -2147483648L, 4294967295L, -1, 4294967296L, 0, -2147483648L, -2147483648L,
            -2147483649L, 2147483647L, Long.MAX_VALUE, -1, Long.MIN_VALUE, 0, 32768, 32768);
    }

    private static void numbersOfSixtyFourBitsAreWhole() {
        cut(3, Long.MAX_VALUE, Long.MAX_VALUE, Long.MIN_VALUE, Long.MIN_VALUE, -1, -1, 2147483648L, 2147483648L);
    }

    private static String filled(String text, int n) {
        return text + " ".repeat(n - text.length());
    }

    // "A PORT is a TEXT of at most 900 bytes."
    private static void textsOf900Bytes() {
        FogKeys x = new FogKeys();
        Kit.due("900 bytes", Kit.port(x, filled("port 2 by 1;", 894) + "wind 3"), -1);
        Kit.due("the last semicolon is not there", x.fault(1), 900);
        Kit.due("900 bytes", Kit.port(x, filled("port 2 by 1;", 893) + "wind 3;"), 0);
        Kit.due("to the last byte", x.many(6), 3);
        Kit.refused("901 bytes", x, x.port(901), 5);
    }

    // "NONE if there would be more than 900."
    private static void theTapeHolds900Bytes() {
        FogKeys x = new FogKeys();
        for (int i = 0; i < 44; i++) {
            x.feed(0x20202020, 0x20202020, 0x20202020, 0x20202020, 0x20202020);
        }
        Kit.due("the 45th feed fills it", x.feed(0x706f7274, 0x20322062, 0x7920333b, 0x20202020, 0x20202020), 900);
        for (int i = 0; i < 3; i++) {
            Kit.due("a 46th feed", x.feed(-1, -1, -1, -1, -1), -1);
        }
        Kit.due("the tape is as it was", x.port(900), 0);
        Kit.due("wide", x.many(0), 2);
        Kit.due("deep", x.many(1), 3);
    }

    // "between them blanks (10, 32)".
    private static void blanksAreTwo() {
        for (char blank = 0; blank < 256; blank++) {
            FogKeys x = new FogKeys();
            String text = "port 2 by 3" + blank + ";";
            boolean isBlank = blank == 10 || blank == 32;
            boolean isToken = blank >= 'a' && blank <= 'z' || ";<>=".indexOf(blank) >= 0;
            int fault = isBlank ? 0 : blank >= '0' && blank <= '9' ? 4 : isToken ? 2 : 1;
            Kit.port(x, blank == ';' ? "port 2 by 3;;" : text);
            Kit.due("byte " + (int) blank + ": fault(0)", x.fault(0), fault);
            Kit.due("byte " + (int) blank + ": fault(1)", x.fault(1), isBlank ? -1 : blank == ';' ? 12 : fault == 4 ? 10 : 11);
        }
        Kit.ported("\n \n port\n\n2 \nby 3\n;\n \n");
        Kit.ported("port2by3;gate a at 0 0lets1answers open quota7;wind1;");
    }

    // "TOKENS, as long as they go".
    private static void tokensGoAsLongAsTheyGo() {
        Kit.portFault("|portby 2 by 3;", 2);
        Kit.portFault("port 2 |byby 3;", 2);
        Kit.portFault("port 2 by 3;gate a at 0 0 lets 1 |answersopen;", 2);
        Kit.portFault("port 2 by 3;gate a at 0 0 lets 1 |opened;", 2);
        Kit.portFault("port 2 by 3;wind |12;", 4);
        Kit.portFault("port 2 by 3;wind 1 |2;", 2);
        Kit.portFault("port 2 by 3;gate a|A at 0 0 lets 1;", 1);
    }

    // "NUMBERS (1 to 4 digits)", "1 no TOKEN begins so (a NUMBER of 5 digits and more: at its first)".
    private static void numbersHaveFourDigits() {
        FogKeys x = Kit.ported("port 0006 by 05;foggy 099;");
        Kit.due("wide", x.many(0), 6);
        Kit.due("deep", x.many(1), 5);
        Kit.due("foggy", x.many(8), 99);
        Kit.portFault("port 1 by 1;foggy |9999;", 4);
        Kit.portFault("port 1 by 1;foggy |00001;", 1);
        Kit.portFault("port 1 by 1;foggy |10000;", 1);
        Kit.portFault("port 1 by 1;foggy |4294967297;", 1);
        Kit.portFault("port 1 by 1;foggy |" + "0".repeat(40) + "1;", 1);
        Kit.portFault("port 1 by 1;|00000", 1);
    }

    // "SIGNS ; < > =".
    private static void signsAreFour() {
        for (char sign : new char[] {'<', '>', '='}) {
            Kit.portFault("port 1 by 1;|" + sign, 2);
            Kit.portFault("port 1 by 1|" + sign, 2);
        }
        // A number that is the byte of a semicolon.
        Kit.portFault("port 1 by 1 |59 wind 1;", 2);
        for (char sign : new char[] {':', '?', '/', '`', '{', '@', '-', '+', ',', '.', 127, 128, 255}) {
            Kit.portFault("port 1 by 1;|" + sign, 1);
        }
    }

    // "NAME: a WORD of 1 to 8 letters"; "a WORD of 9 letters and more where a NAME must stand" is FAULT 2.
    private static void namesHaveEightLetters() {
        for (int kind = 0; kind < 4; kind++) {
            String front = "port 1 by 1;" + KINDS[kind] + " ";
            Kit.ported(front + "z" + RESTS[kind]);
            Kit.ported(front + "zyxwvuts" + RESTS[kind]);
            Kit.portFault(front + "|zyxwvutsr" + RESTS[kind], 2);
            Kit.portFault(front + "|" + "z".repeat(100) + RESTS[kind], 2);
            Kit.portFault(front + "|1" + RESTS[kind], 2);
            Kit.portFault(front + "|;", 2);
            Kit.portFault(front + "|", 2);
        }
    }

    // "that is none of port, by, .."
    private static void namesAreNoneOfTheWords() {
        String[] words = RESERVED.split(" ");
        Kit.due("words that are no names", words.length, 27);
        for (String word : words) {
            for (int kind = 0; kind < 4; kind++) {
                Kit.portFault("port 1 by 1;" + KINDS[kind] + " |" + word + RESTS[kind], 2);
            }
            String[] near = {word + "x", "x" + word, word.substring(1), word.substring(0, word.length() - 1)};
            for (String name : near) {
                boolean isName = name.length() <= 8 && !(" " + RESERVED + " ").contains(" " + name + " ");
                FogKeys x = new FogKeys();
                Kit.port(x, "port 1 by 1;holder " + name + RESTS[1]);
                Kit.due("name " + name, x.fault(0), isName ? 0 : 2);
            }
        }
    }

    // "One NAME is of one thing alone."; "3 a new NAME that is taken."
    private static void namesAreOfOneThingAlone() {
        for (int first = 0; first < 4; first++) {
            for (int second = 0; second < 4; second++) {
                String front = "port 1 by 1;" + KINDS[first] + " same" + RESTS[first] + KINDS[second] + " ";
                Kit.portFault(front + "|same" + RESTS[second], 3);
                Kit.ported(front + "sama" + RESTS[second]);
                Kit.ported(front + "tame" + RESTS[second]);
                Kit.ported(front + "sam" + RESTS[second]);
                Kit.ported(front + "samea" + RESTS[second]);
                Kit.ported(front + "emas" + RESTS[second]);
            }
        }
        StringBuilder all = new StringBuilder("port 1 by 1;");
        for (int kind = 0; kind < 4; kind++) {
            for (int i = 0; i < MOST[kind]; i++) {
                all.append(KINDS[kind]).append(' ').append((char) ('a' + i)).append((char) ('a' + kind)).append(RESTS[kind]);
            }
        }
        Kit.ported(all.toString());
        String last = "ship dd" + RESTS[3];
        String front = all.substring(0, all.indexOf(last));
        Kit.portFault(front + "ship |aa" + RESTS[3], 3);
        Kit.portFault(front + "ship |cd" + RESTS[3], 3);
        // A NAME is free again in the next text.
        FogKeys x = Kit.ported(all.toString());
        Kit.port(x, all.toString());
        Kit.due("the same names once more", x.status(), 0);
    }

    // "WIDE (1 to 6), DEEP (1 to 5)".
    private static void sizesOfAPort() {
        for (int wide = 0; wide <= 7; wide++) {
            for (int deep = 0; deep <= 6; deep++) {
                FogKeys x = new FogKeys();
                boolean is = wide >= 1 && wide <= 6 && deep >= 1 && deep <= 5;
                Kit.due("port " + wide + " by " + deep, Kit.port(x, "port " + wide + " by " + deep + ";"), is ? 0 : -1);
                Kit.due("fault(0)", x.fault(0), is ? 0 : 4);
                Kit.due("fault(1)", x.fault(1), is ? -1 : wide < 1 || wide > 6 ? 5 : 10);
                Kit.due("many(0)", x.many(0), is ? wide : 0);
                Kit.due("many(1)", x.many(1), is ? deep : 0);
            }
        }
    }

    // "boards (column 0 to WIDE less 1, row 0 to DEEP less 1)".
    private static void boardsOfAPort() {
        String[] fronts = {"gate a at ", "trade a at ", "ship a at ", "ship a at 0 0 to "};
        String[] ends = {" lets 1;", " from 1 to 1 pays 1;", " to 0 0;", ";"};
        for (int i = 0; i < 4; i++) {
            String front = "port 4 by 3;" + fronts[i];
            Kit.ported(front + "0 0" + ends[i]);
            Kit.ported(front + "3 2" + ends[i]);
            Kit.portFault(front + "|4 2" + ends[i], 4);
            Kit.portFault(front + "3 |3" + ends[i], 4);
            Kit.portFault("port 1 by 1;" + fronts[i] + "|1 0" + ends[i], 4);
            Kit.portFault("port 1 by 1;" + fronts[i] + "0 |1" + ends[i], 4);
        }
        FogKeys x = Kit.ported("port 4 by 3;");
        for (int column = -1; column <= 4; column++) {
            for (int row = -1; row <= 3; row++) {
                boolean is = column >= 0 && column < 4 && row >= 0 && row < 3;
                Kit.due("foggy(" + column + ", " + row + ")", x.foggy(column, row), is ? 0 : -1);
                Kit.due("status()", x.status(), is ? 0 : 2);
            }
        }
        Kit.refused("foggy(least, 0)", x, x.foggy(Integer.MIN_VALUE, 0), 2);
        Kit.refused("foggy(0, most)", x, x.foggy(0, Integer.MAX_VALUE), 2);
    }

    // "told ahead of all else"; "a PART ahead of port: at its WORD".
    private static void portIsToldAheadOfAllElse() {
        for (int kind = 0; kind < 4; kind++) {
            Kit.portFault(" |" + KINDS[kind] + " a" + RESTS[kind] + "port 1 by 1;", 2);
        }
        Kit.portFault("|wind 1;port 1 by 1;", 2);
        Kit.portFault("|thins 1;port 1 by 1;", 2);
        Kit.portFault("\n|foggy 1;port 1 by 1;", 2);
        Kit.portFault("|foggy", 2);
    }

    private static void gateFact(String rest, int what, int due) {
        FogKeys x = Kit.ported("port 1 by 1;gate a at 0 0 " + rest + ";");
        Kit.due(rest, x.gate(0, what), due);
    }

    // "LETS in so much an HOUR (1 to 40)"; "QUOTA (1 to 99; 1 without)".
    private static void gateNumbers() {
        gateFact("lets 1", 2, 1);
        gateFact("lets 40", 2, 40);
        Kit.portFault("port 1 by 1;gate a at 0 0 lets |0;", 4);
        Kit.portFault("port 1 by 1;gate a at 0 0 lets |41;", 4);
        gateFact("lets 1 quota 1", 4, 1);
        gateFact("lets 1 quota 99", 4, 99);
        gateFact("lets 1", 4, 1);
        Kit.portFault("port 1 by 1;gate a at 0 0 lets 1 quota |0;", 4);
        Kit.portFault("port 1 by 1;gate a at 0 0 lets 1 quota |100;", 4);
    }

    // "[answers] [open] [quota NUMBER]", "([ ] perhaps.)"
    private static void gateMayTellMore() {
        String[] more = {"", " answers", " open", " answers open"};
        for (int i = 0; i < 4; i++) {
            for (int quota = 1; quota <= 2; quota++) {
                String text = "gate a at 0 0 lets 5" + more[i] + (quota == 2 ? " quota 2" : "") + ";";
                FogKeys x = Kit.ported("port 1 by 1;" + text);
                Kit.due(text + " answers", x.gate(0, 3), i % 2);
                Kit.due(text + " open", x.many(10), i / 2);
                Kit.due(text + " quota", x.gate(0, 4), quota);
            }
        }
        Kit.portFault("port 1 by 1;gate a at 0 0 lets 5 open |answers;", 2);
        Kit.portFault("port 1 by 1;gate a at 0 0 lets 5 quota 2 |answers;", 2);
        Kit.portFault("port 1 by 1;gate a at 0 0 lets 5 quota 2 |open;", 2);
        Kit.portFault("port 1 by 1;gate a at 0 0 lets 5 open |open;", 2);
        Kit.portFault("port 1 by 1;gate a at 0 0 lets 5 quota 2 |quota 2;", 2);
        Kit.portFault("port 1 by 1;gate a at 0 0 lets 5 |dark;", 2);
        Kit.portFault("port 1 by 1;gate a at 0 0 lets 5 |clear;", 2);
    }

    // "VOTES (1 to 20)".
    private static void holderNumbers() {
        FogKeys x = Kit.ported("port 1 by 1;holder a votes 1;holder b votes 20;");
        Kit.due("votes(0)", x.votes(0), 1);
        Kit.due("votes(1)", x.votes(1), 20);
        Kit.portFault("port 1 by 1;holder a votes |0;", 4);
        Kit.portFault("port 1 by 1;holder a votes |21;", 4);
    }

    private static void tradeFacts(int from, int to, int pays) {
        String text = "from " + from + " to " + to + " pays " + pays;
        FogKeys x = Kit.ported("port 1 by 1;trade a at 0 0 " + text + ";");
        Kit.due(text, x.trade(0, 2), from);
        Kit.due(text, x.trade(0, 3), to);
        Kit.due(text, x.trade(0, 4), pays);
    }

    // "from the end of an HOUR to that of another one (1 to 24; no less than from)"; "PAYS (1 to 99)".
    private static void tradeNumbers() {
        tradeFacts(1, 1, 1);
        tradeFacts(1, 24, 99);
        tradeFacts(24, 24, 1);
        tradeFacts(12, 12, 50);
        String front = "port 1 by 1;trade a at 0 0 from ";
        Kit.portFault(front + "|0 to 1 pays 1;", 4);
        Kit.portFault(front + "|25 to 25 pays 1;", 4);
        Kit.portFault(front + "1 to |25 pays 1;", 4);
        Kit.portFault(front + "1 to |0 pays 1;", 4);
        Kit.portFault(front + "24 to |23 pays 1;", 4);
        Kit.portFault(front + "2 to |1 pays 1;", 4);
        Kit.portFault(front + "1 to 1 pays |0;", 4);
        Kit.portFault(front + "1 to 1 pays |100;", 4);
    }

    // "[clear]": "it wants the board FOGGY, or CLEAR".
    private static void tradeMayTellMore() {
        FogKeys x = Kit.ported("port 1 by 1;trade a at 0 0 from 1 to 1 pays 1;trade b at 0 0 from 1 to 1 pays 1 clear;");
        Kit.due("wants it foggy", x.trade(0, 5), 0);
        Kit.due("wants it clear", x.trade(1, 5), 1);
        Kit.portFault("port 1 by 1;trade a at 0 0 from 1 to 1 pays 1 |foggy;", 2);
        Kit.portFault("port 1 by 1;trade a at 0 0 from 1 to 1 pays 1 clear |clear;", 2);
    }

    // "[dark]".
    private static void shipMayTellMore() {
        FogKeys x = Kit.ported("port 1 by 1;ship a at 0 0 to 0 0;ship b at 0 0 to 0 0 dark;");
        Kit.due("not dark", x.ship(0, 4), 0);
        Kit.due("dark", x.ship(1, 4), 1);
        Kit.portFault("port 1 by 1;ship a at 0 0 to 0 0 |clear;", 2);
        Kit.portFault("port 1 by 1;ship a at 0 0 to 0 0 dark |dark;", 2);
    }

    private static void setting(String word, int what, int least, int most, int without) {
        for (int v = least; v <= most; v++) {
            FogKeys x = Kit.ported("port 1 by 1;" + word + " " + v + ";");
            Kit.due(word + " " + v, x.many(what), v);
        }
        if (least > 0) {
            Kit.portFault("port 1 by 1;" + word + " |" + (least - 1) + ";", 4);
        }
        Kit.portFault("port 1 by 1;" + word + " |" + (most + 1) + ";", 4);
        Kit.due("without " + word, Kit.ported("port 1 by 1;").many(what), without);
    }

    // "WIND (0 none, 1 .. 4; 0 without)".
    private static void windNumbers() {
        setting("wind", 6, 0, 4, 0);
    }

    // "THINS (0 to 9; 1 without)".
    private static void thinsNumbers() {
        setting("thins", 7, 0, 9, 1);
    }

    // "FOGGY (1 to 99; 10 without)".
    private static void foggyNumbers() {
        setting("foggy", 8, 1, 99, 10);
    }

    // "GATES, at most 6", "HOLDERS, at most 6", "TRADES, at most 6", "SHIPS, at most 4"; "6 a seventh gate .. (at that WORD)".
    private static void thingsAreSoMany() {
        for (int kind = 0; kind < 4; kind++) {
            StringBuilder text = new StringBuilder("port 1 by 1;");
            for (int i = 0; i < MOST[kind]; i++) {
                FogKeys fewer = Kit.ported(text.toString());
                Kit.due("so many of " + KINDS[kind], fewer.many(2 + kind), i);
                text.append(KINDS[kind]).append(' ').append((char) ('a' + i)).append(RESTS[kind]);
            }
            FogKeys x = Kit.ported(text.toString());
            Kit.due("the most of " + KINDS[kind], x.many(2 + kind), MOST[kind]);
            Kit.portFault(text + "|" + KINDS[kind] + " z" + RESTS[kind], 6);
            Kit.portFault(text + " |" + KINDS[kind] + " a", 6);
            Kit.portFault(text + "\n|" + KINDS[kind], 6);
        }
    }

    // "All are numbered as they stand."
    private static void thingsAreNumberedAsTheyStand() {
        FogKeys x = Kit.ported("port 6 by 5;ship a at 5 4 to 0 0;gate b at 4 3 lets 9;trade c at 3 2 from 1 to 1 pays 1;holder d votes 8;"
            + "gate e at 2 1 lets 7;holder f votes 6;trade g at 1 0 from 1 to 1 pays 1;ship h at 0 4 to 0 0;");
        Kit.due("gate 0", x.gate(0, 2), 9);
        Kit.due("gate 1", x.gate(1, 2), 7);
        Kit.due("holder 0", x.votes(0), 8);
        Kit.due("holder 1", x.votes(1), 6);
        Kit.due("trade 0", x.trade(0, 0), 3);
        Kit.due("trade 1", x.trade(1, 0), 1);
        Kit.due("ship 0", x.ship(0, 0), 5);
        Kit.due("ship 1", x.ship(1, 0), 0);
    }

    // "5 port, wind, thins, foggy told already (at that WORD)."
    private static void settingsAreToldOnce() {
        Kit.portFault("port 1 by 1;|port 1 by 1;", 5);
        Kit.portFault("port 1 by 1;wind 2;|port", 5);
        for (String word : new String[] {"wind", "thins", "foggy"}) {
            for (int v = 1; v <= 4; v += 3) {
                Kit.portFault("port 1 by 1;" + word + " " + v + "; |" + word + " " + v + ";", 5);
            }
            Kit.portFault("port 1 by 1;" + word + " 1;\n|" + word, 5);
        }
        Kit.portFault("port 1 by 1;wind 0;|wind 1;", 5);
        Kit.portFault("port 1 by 1;thins 0;|thins 0;", 5);
        // As told in the text ahead they may be told again.
        FogKeys x = Kit.ported("port 1 by 1;wind 1;thins 2;foggy 3;");
        Kit.due("told in the next text", Kit.port(x, "port 1 by 1;wind 1;thins 2;foggy 3;"), 0);
    }

    // "of one TOKEN the least kind".
    private static void theLeastKindOfOneToken() {
        Kit.portFault("|12345 port 1 by 1;", 1);
        Kit.portFault("port 1 by 1;gate |12345", 1);
        Kit.portFault("port 1 by 1;gate a at |12345", 1);
        Kit.portFault("port 1 |%", 1);
        Kit.portFault("port 1 by 1|\0", 1);
        FogKeys x = Kit.ported("port 1 by 1;gate a at 0 0 lets 1;");
        String thirty = "stop;".repeat(30);
        Kit.nightsFault(x, thirty + "|go;", 2);
        Kit.nightsFault(x, thirty + "|end;", 2);
        Kit.nightsFault(x, thirty + "|99999", 1);
        Kit.nightsFault(x, "stop;".repeat(27) + "loop 1;loop 1;loop 1;|loop 1;", 6);
        Kit.nightsFault(x, "stop;".repeat(27) + "loop 1;loop 1;loop 1;|when open a;", 6);
        Kit.nightsFault(x, "open |abcdefghi;", 2);
        Kit.nightsFault(x, "loop 1;loop 1;loop 1;|#", 1);
    }

    // "FAULTS, the first along the text".
    private static void theFirstAlongTheText() {
        Kit.portFault("port |7 by 6; ! 12345", 4);
        Kit.portFault("port 1 by 1;|port !", 5);
        Kit.portFault("port 1 by 1;gate a at 0 0 lets 1;gate |a at 9 9 lets 99;", 3);
        Kit.portFault("port 1 by 1;wind |5 !", 4);
        Kit.portFault("port 1 by |6 gate", 4);
        FogKeys x = Kit.ported("port 1 by 1;gate a at 0 0 lets 1;");
        Kit.nightsFault(x, "open |b !", 3);
        Kit.nightsFault(x, "hour |25 end", 4);
        Kit.nightsFault(x, "loop 1;loop 1;loop 1;|loop 100;", 7);
    }

    // "2 it can't stand there (the end: the text's length".
    private static void theEndIsTheTextsLength() {
        String whole = "port 2 by 2 ; gate a at 0 0 lets 1 answers open quota 2 ; holder b votes 1 ;"
            + " trade c at 0 0 from 1 to 2 pays 1 clear ; ship d at 0 0 to 1 1 dark ; wind 1 ; thins 1 ; foggy 1 ;";
        for (int n = 0; n <= whole.length(); n++) {
            String text = whole.substring(0, n);
            boolean isEnded = text.isBlank() || text.stripTrailing().endsWith(";");
            // Words that the end cuts off are no others of the language here: they can't stand there, or the end can't.
            FogKeys x = new FogKeys();
            Kit.port(x, text);
            Kit.due("'" + text + "': fault(0)", x.fault(0), isEnded ? 0 : 2);
            boolean isCut = !isEnded && n < whole.length() && Character.isLetter(text.charAt(n - 1)) && Character.isLetter(whole.charAt(n));
            Kit.due("'" + text + "': fault(1)", x.fault(1), isEnded ? -1 : isCut ? text.lastIndexOf(' ') + 1 : n);
        }
    }

    // "A PORT that is taken is there in place of that ahead; it is HOUR 0, no fog is there, there are no NIGHTS."
    private static void aPortIsInPlaceOfThatAhead() {
        StringBuilder full = new StringBuilder("port 6 by 5;wind 4;thins 9;foggy 99;");
        for (int kind = 0; kind < 4; kind++) {
            for (int i = 0; i < MOST[kind]; i++) {
                String rest = kind == 0 ? " at 0 0 lets 40 answers open quota 99;" : kind == 3 ? " at 5 4 to 5 4 dark;" : RESTS[kind];
                full.append(KINDS[kind]).append(' ').append((char) ('a' + i)).append((char) ('a' + kind)).append(rest);
            }
        }
        FogKeys x = Kit.ported(full.toString());
        Kit.nights(x, "storm;hour 3;");
        x.breathe(5, 4, 0, 999);
        x.hour(48);
        x.live(7);
        x.mean(9, 20);
        Kit.due("port", Kit.port(x, "port 6 by 4;gate a at 1 1 lets 3;"), 1);
        int[] due = {6, 4, 1, 0, 0, 0, 0, 1, 10, 0, 0, 0, 0, 0};
        for (int what = 0; what < 14; what++) {
            Kit.due("many(" + what + ")", x.many(what), due[what]);
        }
        int[] gate = {1, 1, 3, 0, 1};
        for (int what = 0; what < 5; what++) {
            Kit.due("gate(0, " + what + ")", x.gate(0, what), gate[what]);
        }
        Kit.refused("no nights", x, x.live(0), 8);
        Kit.refused("no nights", x, x.mean(0, 1), 8);
        Kit.refused("no trade", x, x.trade(0, 0), 2);
        Kit.refused("no ship", x, x.ship(0, 0), 2);
        Kit.refused("no holder", x, x.votes(0), 2);
        Kit.due("nothing comes", x.foggyIn(48), 0);
        Kit.due("no boards then", x.port(0), 0);
        int[] none = {0, 0, 0, 0, 0, 0, 0, 1, 10, 0, 0, 0, 0, 0};
        for (int what = 0; what < 14; what++) {
            Kit.due("of no port many(" + what + ")", x.many(what), none[what]);
        }
    }

    // "10: the old one stays"; "changes nothing but STATUS (but port(), nights() with 10 the tape, and what fault() tells)".
    private static void aFaultLeavesAllAsItIs() {
        FogKeys x = Kit.ported("port 2 by 1;gate a at 0 0 lets 20 open;wind 1;thins 2;foggy 9;");
        Kit.nights(x, "hour 2;hour 2;");
        x.hour(3);
        int fog = x.fog(1, 0, 0);
        Kit.refused("port", x, Kit.port(x, "port 3 by 3;wind 2;thins 3;foggy 4;gate b at 2 2 lets 3;gate c at 0 0 lets 41;"), 10);
        int[] due = {2, 1, 1, 0, 0, 0, 1, 2, 9, 3, 1};
        for (int what = 0; what < due.length; what++) {
            Kit.due("many(" + what + ")", x.many(what), due[what]);
        }
        Kit.due("the fog stays", x.fog(1, 0, 0), fog);
        Kit.refused("nights", x, Kit.nights(x, "hour 1;stop;hour 99;"), 10);
        Kit.due("the nights stay", x.live(0), 2);
        Kit.due("the hour", x.many(9), 7);
        Kit.due("port", Kit.port(x, "port 1 by 1;"), 0);
        Kit.due("what the fault left is gone: many(2)", x.many(2), 0);
        Kit.due("many(6)", x.many(6), 0);
    }
}
