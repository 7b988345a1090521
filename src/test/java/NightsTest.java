/** Promises 49 to 57: KEYS, NIGHTS, MARKS. */
public final class NightsTest {
    public static void main(String[] args) {
        keysFit();
        keysAreKnown();
        nextTry();
        chanceOfKeys();
        triesAreRefused();
        stepsAreDone();
        stepsAreMissed();
        whensAndLoops();
        stepsHaveAnEnd();
        hoursHaveAnEnd();
        stormsDraw();
        livedIsTold();
        meanIsTold();
        marksAreKept();
        Kit.end();
    }

    // Promise 49.
    private static void keysFit() {
        int[] all = {1, 1, 2, 6, 24, 120, 720};
        for (int gates = 0; gates <= 6; gates++) {
            FogKeys x = Kit.keyed(gates);
            Kit.due("fits of " + gates, x.fits(0, 0), all[gates]);
        }
        FogKeys x = Kit.keyed(4, 0, 121, 300, 101);
        Kit.due("a try that failed", x.fits(0, 1), 18);
        Kit.due("a try that fitted", x.fits(0, 2), 4);
        Kit.due("only the first n", x.fits(0, 3), 2);
        Kit.due("a key that fits two", x.fits(0, 4), 0);
        Kit.due("status()", x.status(), 0);
        FogKeys y = Kit.keyed(3, 1, 101);
        Kit.due("two keys, one gate", y.fits(0, 2), 0);
        FogKeys six = Kit.keyed(6, 500, 510, 520, 530, 540, 451);
        Kit.due("all but one of the last key", six.fits(0, 5), 120);
        Kit.due("the last gate is taken", six.fits(0, 6), 0);
        FogKeys each = Kit.keyed(6, 1, 111, 221, 331, 440);
        Kit.due("two are left", each.fits(0, 4), 2);
        Kit.due("one is left", each.fits(0, 5), 1);
        Kit.due("the last key", each.known(5, 0, 5), 4);
        FogKeys full = Kit.ported("port 1 by 1;gate a at 0 0 lets 1;");
        full.tray(1, 0, 60);
        for (int i = 0; i < 60; i++) {
            full.write(1, i, 1);
        }
        Kit.due("60 tries", full.fits(1, 60), 1);
    }

    // Promise 50.
    private static void keysAreKnown() {
        FogKeys x = Kit.keyed(3, 110, 120, 0);
        Kit.due("known(1)", x.known(1, 0, 2), 0);
        Kit.refused("not known", x, x.known(0, 0, 2), 8);
        Kit.refused("not known", x, x.known(1, 0, 1), 8);
        FogKeys y = Kit.keyed(3, 111, 1);
        Kit.due("what is left", y.known(2, 0, 2), 2);
        FogKeys none = Kit.keyed(2, 1, 0);
        Kit.refused("no way", none, none.known(0, 0, 2), 8);
        FogKeys one = Kit.keyed(1);
        Kit.due("one key alone", one.known(0, 0, 0), 0);
    }

    // Promise 51.
    private static void nextTry() {
        FogKeys x = Kit.keyed(3, 0, 120);
        Kit.due("next by none", x.next(0, 0), 0);
        // Without 0 to 0: four ways, 1 2 0, 1 0 2, 2 0 1, 2 1 0 by keys: two each by key 0.
        Kit.due("next by one", x.next(0, 1), 1);
        Kit.due("next by two", x.next(0, 2), 1);
        FogKeys y = Kit.keyed(3, 1);
        Kit.due("what is known tells nothing", y.next(0, 1), 11);
        FogKeys z = Kit.keyed(3, 1, 111);
        Kit.refused("one way", z, z.next(0, 2), 8);
        FogKeys none = Kit.keyed(3, 1, 11);
        Kit.refused("no way", none, none.next(0, 2), 8);
        FogKeys nothing = Kit.keyed(0);
        Kit.refused("no keys", nothing, nothing.next(0, 0), 8);
    }

    // Promise 52.
    private static void chanceOfKeys() {
        FogKeys x = Kit.keyed(4, 0, 121);
        Kit.fraction("chance", x, x.chance(0, 0, 0, 0), 1, 4);
        Kit.fraction("chance", x, x.chance(0, 0, 0, 1), 0, 1);
        Kit.fraction("chance", x, x.chance(0, 1, 0, 1), 1, 3);
        Kit.fraction("chance", x, x.chance(1, 2, 0, 2), 1, 1);
        Kit.fraction("chance", x, x.chance(2, 0, 0, 2), 1, 2);
        Kit.refused("no key", x, x.chance(4, 0, 1, 0), 2);
        Kit.refused("no gate", x, x.chance(0, 4, 1, 0), 2);
        Kit.refused("no tray", x, x.chance(4, 4, 4, 0), 1);
        Kit.refused("missing", x, x.chance(0, 0, 1, 9), 3);
        Kit.refused("too few", x, x.chance(0, 0, 0, 3), 4);
        Kit.refused("below 0", x, x.chance(0, 0, 0, -1), 5);
        FogKeys none = Kit.keyed(2, 1, 0);
        Kit.refused("no way", none, none.chance(0, 0, 0, 2), 8);
        Kit.due("the fraction stays", x.bottom(), 2);
    }

    private static void triesAreRefused() {
        long[] bad = {-1, 2, 9, 30, 300, 311, 12, 1000, 1L << 33, -100};
        for (long v : bad) {
            FogKeys x = Kit.keyed(3);
            x.tray(0, 3, 2);
            x.write(0, 1, v);
            Kit.due("fits ahead of " + v, x.fits(0, 1), 4);
            Kit.refused("fits with " + v, x, x.fits(0, 2), 5);
            Kit.refused("known with " + v, x, x.known(0, 0, 2), 5);
            Kit.refused("next with " + v, x, x.next(0, 2), 5);
            Kit.refused("chance with " + v, x, x.chance(0, 0, 0, 2), 5);
        }
        FogKeys x = Kit.keyed(3, 0);
        Kit.refused("fits(4, 0)", x, x.fits(4, 0), 1);
        Kit.refused("fits(1, 99)", x, x.fits(1, 99), 3);
        Kit.refused("fits(0, 2)", x, x.fits(0, 2), 4);
        Kit.refused("fits(0, 61)", x, x.fits(0, 61), 4);
        Kit.refused("fits(0, -1)", x, x.fits(0, -1), 5);
        Kit.refused("known(3, 4, 0)", x, x.known(3, 4, 0), 1);
        Kit.refused("known(3, 1, 0)", x, x.known(3, 1, 0), 2);
        Kit.refused("known(-1, 0, 0)", x, x.known(-1, 0, 0), 2);
        Kit.refused("known(0, 1, 0)", x, x.known(0, 1, 0), 3);
        Kit.refused("known(0, 0, 2)", x, x.known(0, 0, 2), 4);
        Kit.refused("known(0, 0, -1)", x, x.known(0, 0, -1), 5);
        Kit.refused("next(-1, 0)", x, x.next(-1, 0), 1);
        Kit.refused("next(2, 0)", x, x.next(2, 0), 3);
        Kit.refused("next(0, 2)", x, x.next(0, 2), 4);
        Kit.refused("next(0, -1)", x, x.next(0, -1), 5);
        FogKeys none = Kit.keyed(0, 0);
        Kit.refused("no keys at all", none, none.fits(0, 1), 5);
    }

    // Promise 53.
    private static void stepsAreDone() {
        FogKeys x = Kit.ported(Kit.BASE);
        Kit.nights(x, "hour 2; shut sea; open old; wind 3; hour 1;");
        Kit.due("live(0)", x.live(0), 5);
        Kit.due("status()", x.status(), 0);
        Kit.due("gates", x.many(10), 2);
        Kit.due("wind", x.many(6), 3);
        Kit.due("hour", x.many(9), 3);
        // 11, 20 at the gate, then wind takes a quarter, less 1.
        Kit.due("fog", x.fog(0, 0, 0), 14);
        Kit.facts("steps", x, 0, 3, 3, 0, 0);
        Kit.due("again from there", x.live(0), 5);
        Kit.facts("again", x, 3, 3, 3, 0, 0);
        Kit.refused("live(-1)", x, x.live(-1), 5);
        Kit.refused("live(10000)", x, x.live(10000), 5);
        Kit.due("live(9999)", x.live(9999), 5);
        FogKeys none = new FogKeys();
        Kit.refused("no nights", none, none.live(0), 8);
        Kit.refused("no nights, no seed", none, none.live(10000), 5);
        Kit.nights(none, " ");
        Kit.due("nights without steps", none.live(0), 0);
        Kit.nights(x, "hour 1; stop; hour 1;");
        Kit.due("stop is come to", x.live(0), 2);
        Kit.facts("stop", x, 0, 1, x.many(13), 0, 0);
    }

    private static void stepsAreMissed() {
        FogKeys x = Kit.ported(Kit.BASE);
        Kit.nights(x, "open sea; shut old; wind 0; wind 1; wind 1; shut sea; shut sea; open old; open old;");
        Kit.due("missed ones count", x.live(0), 9);
        Kit.facts("missed", x, 6, 0, 0, 0, 0);
        Kit.due("gates", x.many(10), 2);
    }

    private static void whensAndLoops() {
        FogKeys x = Kit.ported("port 2 by 1;gate a at 0 0 lets 10 open;gate b at 1 0 lets 1 answers;thins 0;wind 1;foggy 9;");
        Kit.nights(x, "when foggy 0 0; wind 2; end; when open a; shut a; end; when open a; stop; end;");
        Kit.due("whens", x.live(0), 4);
        Kit.due("a is shut", x.many(10), 0);
        Kit.due("wind", x.many(6), 1);
        x.breathe(1, 0, 0, 4);
        x.breathe(1, 0, 1, 5);
        String[] tests = {"foggy 1 0", "lets 1 0 = 9", "lets 1 0 < 10", "lets 1 0 > 8"};
        String[] fails = {"foggy 0 0", "lets 1 0 = 8", "lets 1 0 < 9", "lets 1 0 > 9"};
        for (int i = 0; i < 4; i++) {
            Kit.nights(x, "when " + tests[i] + "; wind 1; end; wind 1;");
            Kit.due(tests[i], x.live(0), 3);
            Kit.nights(x, "when " + fails[i] + "; wind 1; end; wind 1;");
            Kit.due(fails[i], x.live(0), 2);
        }
        Kit.nights(x, "loop 3; loop 2; wind 1; end; wind 1; end; loop 99; end;");
        Kit.due("1 and 3 times 1 and 2 and 1, and 1", x.live(0), 14);
        Kit.facts("loops", x, 9, 0, 0, 0, 0);
        Kit.nights(x, "loop 5; wind 2; when lets 0 0 = 0; wind 1; end; stop; end;");
        Kit.due("stop within", x.live(0), 5);
    }

    private static void stepsHaveAnEnd() {
        FogKeys x = Kit.ported("port 1 by 1;");
        Kit.nights(x, "loop 99;wind 0;wind 0;end;loop 99;wind 0;end;wind 0;");
        Kit.due("1 and 198 and 1 and 99 and 1", x.live(0), 300);
        Kit.facts("just 300", x, 298, 0, 0, 0, 0);
        Kit.nights(x, "loop 99;wind 0;wind 0;end;loop 99;wind 0;end;wind 0;wind 0;");
        Kit.due("one more", x.live(0), 300);
        Kit.facts("one is left", x, 298, 0, 0, 0, 1);
        Kit.nights(x, "loop 99;wind 0;wind 0;end;loop 99;wind 0;end;when foggy 0 0;wind 0;end;");
        Kit.due("a when that is not entered", x.live(0), 300);
        Kit.facts("nothing is left", x, 297, 0, 0, 0, 0);
        Kit.nights(x, "loop 99;wind 0;wind 0;end;loop 99;wind 0;end;stop;wind 0;");
        Kit.due("a stop at the end", x.live(0), 300);
        Kit.facts("nothing is left by stop", x, 297, 0, 0, 0, 0);
        Kit.nights(x, "loop 99;loop 99;loop 99;end;end;end;");
        Kit.due("loops of nothing", x.live(0), 300);
        Kit.facts("left", x, 0, 0, 0, 0, 1);
        Kit.nights(x, "loop 99;wind 0;wind 0;end;loop 99;wind 0;end;loop 99;end;");
        Kit.due("the last is a loop of nothing", x.live(0), 300);
        Kit.facts("nothing is left", x, 297, 0, 0, 0, 0);
        Kit.nights(x, "loop 1;loop 99;wind 0;wind 0;end;loop 99;wind 0;end;end;");
        Kit.due("ends are none", x.live(0), 300);
        Kit.facts("nothing is left", x, 297, 0, 0, 0, 0);
        Kit.nights(x, "loop 2;loop 99;wind 0;wind 0;end;loop 99;wind 0;end;end;");
        Kit.due("once more", x.live(0), 300);
        Kit.facts("left", x, 297, 0, 0, 0, 1);
    }

    private static void hoursHaveAnEnd() {
        FogKeys x = Kit.ported("port 1 by 1;gate a at 0 0 lets 40 open;");
        Kit.nights(x, "loop 99;hour 24;hour 24;end;");
        Kit.due("live", x.live(0), 199);
        Kit.facts("hours", x, 0, 4752, 4752, 0, 0);
        x.live(0);
        Kit.due("many(9)", x.many(9), 9504);
        x.live(0);
        Kit.due("hours beyond are missed as a whole", x.many(9), 9984);
        Kit.facts("missed", x, 178, 480, 480, 0, 0);
        Kit.nights(x, "hour 16; hour 15; hour 1;");
        Kit.due("live", x.live(0), 3);
        Kit.due("many(9)", x.many(9), 9999);
        Kit.facts("missed", x, 2, 15, 15, 0, 0);
    }

    private static void stormsDraw() {
        FogKeys x = Kit.ported("port 1 by 1;gate a at 0 0 lets 1;gate b at 0 0 lets 1 open;gate c at 0 0 lets 1;");
        Kit.nights(x, "storm;");
        Kit.due("live(0)", x.live(0), 1);
        int s = 0;
        int[] draws = new int[4];
        for (int i = 0; i < 4; i++) {
            s = (s * 2971 + 10667) % 65536;
            draws[i] = s / 8;
        }
        Kit.due("the first draw", draws[0], 1333);
        Kit.due("wind", x.many(6), 3);
        Kit.due("gates", x.many(10), draws[1] % 2 + draws[2] % 2 * 2 + draws[3] % 2 * 4);
        Kit.facts("storms", x, 0, 0, 0, 1, 0);
        Kit.nights(x, "storm; storm;");
        x.live(9999);
        s = 9999;
        for (int i = 0; i < 8; i++) {
            s = (s * 2971 + 10667) % 65536;
            draws[i % 4] = s / 8;
        }
        Kit.due("draws go on: wind", x.many(6), draws[0] % 5);
        Kit.due("draws go on: gates", x.many(10), draws[1] % 2 + draws[2] % 2 * 2 + draws[3] % 2 * 4);
        Kit.facts("storms", x, 0, 0, 0, 2, 0);
    }

    // Promise 54.
    private static void livedIsTold() {
        FogKeys x = Kit.ported(Kit.BASE);
        Kit.refused("lived(0)", x, x.lived(0), 8);
        Kit.refused("lived(5)", x, x.lived(5), 5);
        x.mark();
        Kit.nights(x, "hour 4; storm; shut sea; shut sea; open old; shut old;");
        x.live(3);
        int missed = x.lived(0);
        // 1, 1, 1, 3 boards were foggy.
        Kit.facts("lived", x, missed, 4, 6, 1, 0);
        Kit.refused("lived(-1)", x, x.lived(-1), 5);
        Kit.refused("lived(5)", x, x.lived(5), 5);
        x.back();
        Kit.facts("whatever came since", x, missed, 4, 6, 1, 0);
        x.live(10000);
        x.live(0);
        x.port(0);
        Kit.facts("whatever came since", x, missed, 4, 6, 1, 0);
        Kit.port(x, Kit.BASE);
        Kit.nights(x, "hour 1;");
        x.mean(0, 1);
        Kit.facts("mean() is none", x, missed, 4, 6, 1, 0);
    }

    // Promise 55.
    private static void meanIsTold() {
        FogKeys x = Kit.ported("port 1 by 1;gate a at 0 0 lets 20;");
        Kit.refused("no nights", x, x.mean(0, 1), 8);
        Kit.refused("no nights, many 0", x, x.mean(0, 0), 5);
        Kit.nights(x, "storm; hour 1;");
        int foggy = 0;
        for (int seed = 100; seed < 120; seed++) {
            int s = (seed * 2971 + 10667) % 65536;
            s = (s * 2971 + 10667) % 65536;
            int w = (seed * 2971 + 10667) % 65536 / 8 % 5;
            foggy += s / 8 % 2 == 1 && (w == 0 || 20 - 5 - 1 >= 10) ? 1 : 0;
            Kit.due("mean", x.mean(100, seed - 99), true);
            Kit.due("mean by " + (seed - 99), x.top() * (seed - 99), foggy * x.bottom());
        }
        Kit.due("nothing has come of it", x.many(9) + x.many(11) + x.many(10) + x.many(6), 0);
        Kit.refused("lived", x, x.lived(0), 8);
        Kit.refused("many 0", x, x.mean(0, 0), 5);
        Kit.refused("many 21", x, x.mean(0, 21), 5);
        Kit.refused("seed -1", x, x.mean(-1, 2), 5);
        Kit.refused("seed 10000", x, x.mean(10000, 1), 5);
        Kit.refused("the last above 9999", x, x.mean(9999, 2), 5);
        Kit.due("the last is 9999", x.mean(9980, 20), true);
        Kit.due("one alone", x.mean(9999, 1), true);
        FogKeys y = Kit.ported("port 3 by 1;gate a at 0 0 lets 40 open;thins 0;");
        Kit.nights(y, "hour 24;");
        Kit.fraction("mean", y, y.mean(0, 20), 3, 1);
    }

    // Promises 56 and 57.
    private static void marksAreKept() {
        FogKeys x = Kit.ported(Kit.BASE);
        Kit.nights(x, "hour 1;");
        x.hour(2);
        Kit.due("mark()", x.mark(), 1);
        int wool = x.many(11);
        x.tow(0, 1, 1);
        x.wind(2);
        x.open(1, true);
        x.breathe(3, 0, 1, 50);
        Kit.nights(x, "hour 2; hour 2;");
        Kit.due("mark()", x.mark(), 2);
        x.tray(0, 0, 1);
        x.write(0, 0, 9);
        Kit.port(x, "port 1 by 1;foggy 3;thins 9;");
        Kit.due("mark()", x.mark(), 3);
        Kit.refused("mark()", x, x.mark(), 7);
        x.breathe(0, 0, 0, 7);
        x.feed(0, 0, 0, 0, 0);
        Kit.due("back()", x.back(), 2);
        Kit.due("no wool", x.many(11), 0);
        Kit.due("thins", x.many(7), 9);
        Kit.due("the tape stays", x.feed(0, 0, 0, 0, 0), 40);
        Kit.due("trays stay", x.read(0, 0), 9);
        Kit.due("back()", x.back(), 1);
        int[] due = {4, 3, 2, 3, 3, 2, 2, 1, 10, 2, 3};
        for (int what = 0; what < due.length; what++) {
            Kit.due("many(" + what + ")", x.many(what), due[what]);
        }
        Kit.due("answers", x.many(12), 50);
        Kit.due("the ship", x.ship(0, 0), 1);
        Kit.due("nights", x.live(0), 2);
        Kit.due("a mark more", x.mark(), 2);
        Kit.due("back()", x.back(), 1);
        Kit.due("back()", x.back(), 0);
        Kit.due("status()", x.status(), 0);
        Kit.due("wool", x.many(11), wool);
        Kit.due("answers", x.many(12), 0);
        Kit.due("wind", x.many(6), 0);
        Kit.due("gates", x.many(10), 1);
        Kit.due("the ship", x.ship(0, 1), 2);
        Kit.due("nights", x.live(0), 1);
        Kit.refused("back()", x, x.back(), 8);
    }
}
