/** What the tests share: counting wrong answers, and giving texts to an object. */
final class Kit {
    static final String BASE = "port 4 by 3;gate sea at 0 0 lets 16 open quota 5;gate old at 3 2 lets 8 answers quota 9;"
        + "holder ann votes 4;holder bob votes 3;holder cid votes 2;trade wool at 0 0 from 1 to 3 pays 9;"
        + "trade wash at 3 0 from 1 to 4 pays 6 clear;trade spy at 3 2 from 2 to 3 pays 7;ship eel at 0 2 to 3 0;"
        + "ship owl at 0 0 to 1 0 dark;thins 1;foggy 10;";

    private static int wrong = 0;
    private static int asked = 0;

    private Kit() {
    }

    static void due(String what, long got, long want) {
        asked++;
        if (got != want) {
            wrong++;
            System.out.println(what + " answered " + got + ", due is " + want);
        }
    }

    static void due(String what, boolean got, boolean want) {
        due(what, got ? 1 : 0, want ? 1 : 0);
    }

    /** The call must have answered NONE, with this status. */
    static void refused(String what, FogKeys x, long got, int status) {
        due(what, got, FogKeys.NONE);
        due(what + ": status()", x.status(), status);
    }

    /** The call must have answered false, with this status. */
    static void refused(String what, FogKeys x, boolean got, int status) {
        due(what, got, false);
        due(what + ": status()", x.status(), status);
    }

    static void fraction(String what, FogKeys x, boolean got, long top, long bottom) {
        due(what, got, true);
        due(what + ": status()", x.status(), 0);
        due(what + ": top()", x.top(), top);
        due(what + ": bottom()", x.bottom(), bottom);
    }

    static void feedText(FogKeys x, String text) {
        for (int i = 0; i < text.length(); i += 20) {
            int[] five = new int[5];
            for (int k = 0; k < 20; k++) {
                int sign = i + k < text.length() ? text.charAt(i + k) & 255 : 32;
                five[k / 4] = five[k / 4] << 8 | sign;
            }
            x.feed(five[0], five[1], five[2], five[3], five[4]);
        }
    }

    static int port(FogKeys x, String text) {
        feedText(x, text);
        return x.port(text.length());
    }

    static int nights(FogKeys x, String text) {
        feedText(x, text);
        return x.nights(text.length());
    }

    static FogKeys ported(String text) {
        FogKeys x = new FogKeys();
        port(x, text);
        due("the port '" + text + "' is taken: status()", x.status(), 0);
        return x;
    }

    /** A text with a bar at the place of its FAULT (the bar itself is not given). */
    static void portFault(String text, int kind) {
        FogKeys x = ported("port 2 by 1;gate kept at 1 0 lets 7;");
        String plain = text.replace("|", "");
        refused("port '" + text + "'", x, port(x, plain), 10);
        faultAt("port '" + text + "'", x, kind, text.indexOf('|'));
        due("the old port stays: many(0)", x.many(0), 2);
        due("the old port stays: gate(0, 2)", x.gate(0, 2), 7);
    }

    static void nightsFault(FogKeys x, String text, int kind) {
        String plain = text.replace("|", "");
        refused("nights '" + text + "'", x, nights(x, plain), 10);
        faultAt("nights '" + text + "'", x, kind, text.indexOf('|'));
    }

    private static void faultAt(String what, FogKeys x, int kind, int place) {
        due(what + ": fault(0)", x.fault(0), kind);
        due(what + ": fault(1)", x.fault(1), place);
        refused(what + ": the tape is empty", x, x.port(1), 5);
    }

    /** A PORT whose boards that stand as # are foggy, row by row; a ship and a dark one are there. */
    static FogKeys pictured(String... rows) {
        FogKeys x = ported("port " + rows[0].length() + " by " + rows.length + ";foggy 10;thins 0;ship a at 0 0 to 0 0;"
            + "ship b at 0 0 to 0 0 dark;");
        for (int row = 0; row < rows.length; row++) {
            for (int column = 0; column < rows[row].length(); column++) {
                if (rows[row].charAt(column) == '#') {
                    x.breathe(column, row, 1, 10);
                }
            }
        }
        return x;
    }

    /** A PORT of so many GATES, and tries in TRAY 0. */
    static FogKeys keyed(int gates, long... tries) {
        StringBuilder text = new StringBuilder("port 1 by 1;");
        for (int i = 0; i < gates; i++) {
            text.append("gate ").append((char) ('a' + i)).append(" at 0 0 lets 1;");
        }
        FogKeys x = ported(text.toString());
        x.tray(0, 2, tries.length);
        for (int i = 0; i < tries.length; i++) {
            x.write(0, i, tries[i]);
        }
        return x;
    }

    /** What lived() tells, as far as it is named here. */
    static void facts(String what, FogKeys x, int... due) {
        for (int i = 0; i < due.length; i++) {
            due(what + ": lived(" + i + ")", x.lived(i), due[i]);
        }
    }

    static void end() {
        System.out.println(wrong == 0 ? asked + " answers are as due" : wrong + " of " + asked + " answers are not as due");
        if (wrong != 0) {
            System.exit(1);
        }
    }
}
