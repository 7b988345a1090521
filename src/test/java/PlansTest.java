/** Promises 35 to 48: plans, ways, and HOLDERS. */
public final class PlansTest {
    public static void main(String[] args) {
        planServesTheMost();
        planTakesTheFewest();
        turnServesMore();
        turnTakesTheLeast();
        waysAreCounted();
        shipsSail();
        watchesClose();
        holdersTogether();
        fewestHolders();
        powerOfHolders();
        vetoAndIdle();
        reachOfHolders();
        Kit.end();
    }

    // Promises 35 and 36.
    private static void planServesTheMost() {
        FogKeys x = Kit.ported(Kit.BASE);
        Kit.due("plan()", x.plan(), 22);
        Kit.due("planSet()", x.planSet(), 3);
        Kit.due("gates stay as they are", x.many(10), 1);
        FogKeys y = Kit.ported("port 1 by 1;gate a at 0 0 lets 20;gate b at 0 0 lets 20 answers;gate c at 0 0 lets 5;foggy 10;"
            + "trade t at 0 0 from 1 to 9 pays 5 clear;trade u at 0 0 from 3 to 3 pays 6;");
        // Alone c is 4, 8, 12 then; b and c are foggy first.
        Kit.due("plan()", y.plan(), 6);
        Kit.due("planSet()", y.planSet(), 1);
    }

    private static void planTakesTheFewest() {
        FogKeys x = Kit.ported("port 2 by 1;gate a at 0 0 lets 6;gate b at 0 0 lets 7;gate c at 0 0 lets 12;wind 1;thins 0;foggy 8;"
            + "trade t at 0 0 from 1 to 1 pays 3;");
        // a and b are set 3, c alone is set 4: the fewest first.
        Kit.due("plan()", x.plan(), 3);
        Kit.due("planSet()", x.planSet(), 4);
        x.breathe(0, 0, 0, 3);
        // a or b alone are enough now, with 9 less 2, 10 less 2.
        Kit.due("the least number of the fewest", x.planSet(), 2);
        x.breathe(0, 0, 0, 20);
        Kit.due("none at all", x.planSet(), 0);
        Kit.due("plan()", x.plan(), 3);
    }

    // Promises 37 and 38.
    private static void turnServesMore() {
        FogKeys x = Kit.ported("port 1 by 1;gate a at 0 0 lets 20;gate b at 0 0 lets 40 answers;foggy 10;thins 1;"
            + "trade t at 0 0 from 1 to 2 pays 5;trade u at 0 0 from 3 to 3 pays 6 clear;");
        // 19, 38 by a; then b makes 40 and 38 meet: 2 and less.
        Kit.due("plan() serves one alone", x.plan(), 6);
        Kit.due("turn(2)", x.turn(2), 11);
        Kit.due("turnSet(2, 0)", x.turnSet(2, 0), 1);
        Kit.due("turnSet(2, 1)", x.turnSet(2, 1), 2);
        Kit.due("status()", x.status(), 0);
        // With h = 1 b comes first: 39, then a makes it 18, and 1.
        Kit.due("turn(1)", x.turn(1), 11);
        Kit.due("turnSet(1, 0)", x.turnSet(1, 0), 2);
        Kit.due("turnSet(1, 1)", x.turnSet(1, 1), 1);
        Kit.due("turn(23)", x.turn(23), 6);
        Kit.refused("turn(0)", x, x.turn(0), 5);
        Kit.refused("turn(24)", x, x.turn(24), 5);
        Kit.refused("turnSet(0, 0)", x, x.turnSet(0, 0), 5);
        Kit.refused("turnSet(24, 0)", x, x.turnSet(24, 0), 5);
        Kit.refused("turnSet(1, 2)", x, x.turnSet(1, 2), 5);
        Kit.refused("turnSet(1, -1)", x, x.turnSet(1, -1), 5);
    }

    private static void turnTakesTheLeast() {
        FogKeys x = Kit.ported("port 2 by 1;gate a at 0 0 lets 6;gate b at 0 0 lets 7;gate c at 0 0 lets 12;wind 1;thins 0;foggy 8;"
            + "trade t at 0 0 from 1 to 1 pays 3;");
        Kit.due("the first the least number, not the fewest", x.turnSet(1, 0), 3);
        Kit.due("then the second", x.turnSet(1, 1), 0);
        FogKeys y = Kit.ported("port 1 by 1;gate a at 0 0 lets 20;gate b at 0 0 lets 30;foggy 15;trade t at 0 0 from 24 to 24 pays 3;");
        Kit.due("turn(23)", y.turn(23), 3);
        Kit.due("the first is none", y.turnSet(23, 0), 0);
        Kit.due("the second the least", y.turnSet(23, 1), 1);
    }

    // Promise 39.
    private static void waysAreCounted() {
        FogKeys x = Kit.pictured(
            "..#...",
            ".##.#.",
            "#...#.");
        Kit.due("clear ones", x.way(5, 0, 0, 0, 0), -1);
        Kit.due("none", x.status(), 8);
        Kit.due("clear ones", x.way(5, 2, 1, 2, 0), 8);
        Kit.due("the first is not asked", x.way(2, 0, 5, 2, 0), 5);
        Kit.due("the last is asked", x.way(5, 2, 2, 0, 0), -1);
        Kit.due("foggy ones", x.way(2, 0, 1, 1, 1), 2);
        Kit.due("the first is not asked", x.way(1, 0, 2, 1, 1), 2);
        Kit.due("foggy ones, none", x.way(2, 0, 4, 1, 1), -1);
        Kit.due("none", x.status(), 8);
        Kit.due("by all: through fog", x.way(0, 0, 5, 0, 2), 7);
        Kit.due("by all: the first is not counted", x.way(2, 0, 3, 0, 2), 1);
        Kit.due("by all: the last is counted", x.way(3, 0, 2, 0, 2), 3);
        Kit.due("by all: a way around", x.way(3, 2, 5, 2, 2), 4);
        for (int road = 0; road < 3; road++) {
            Kit.due("to where it is", x.way(2, 0, 2, 0, road), 0);
        }
        Kit.refused("road 3", x, x.way(0, 0, 1, 0, 3), 5);
        Kit.refused("road -1", x, x.way(0, 0, 1, 0, -1), 5);
        Kit.refused("no board, road 3", x, x.way(6, 0, 1, 0, 3), 2);
        Kit.refused("no board to go to", x, x.way(0, 0, 0, 3, 0), 2);
    }

    // Promise 40.
    private static void shipsSail() {
        FogKeys x = Kit.ported(Kit.BASE);
        Kit.due("sail(0)", x.sail(0), 5);
        Kit.due("a dark ship waits for fog", x.sail(1), 4);
        x.tow(1, 1, 0);
        Kit.due("it is there: not asked", x.sail(1), 0);
        x.tow(1, 3, 2);
        Kit.refused("dark, and clear around", x, x.sail(1), 8);
        Kit.refused("sail(2)", x, x.sail(2), 2);
        Kit.refused("sail(-1)", x, x.sail(-1), 2);
        FogKeys y = Kit.ported("port 3 by 1;ship a at 0 0 to 2 0;foggy 10;thins 1;wind 2;");
        y.breathe(1, 0, 0, 16);
        // 16 becomes 11, then 8.
        Kit.due("it waits till it is clear", y.sail(0), 3);
        y.breathe(0, 0, 0, 20);
        // 20 becomes 14, then 10, then 7: it can neither stay nor go on in the first hour.
        Kit.refused("it can't stay", y, y.sail(0), 8);
        FogKeys far = Kit.ported("port 2 by 1;ship a at 0 0 to 1 0;foggy 1;thins 1;gate g at 0 0 lets 1;");
        far.breathe(1, 0, 1, 5);
        Kit.due("sail", far.sail(0), 5);
        String front = "port 5 by 1;gate g at 0 0 lets 13 open;thins 3;ship a at 0 0 to 4 0 dark;foggy ";
        FogKeys last = Kit.ported(front + "80;");
        last.breathe(0, 0, 0, 999);
        Kit.due("the fog is there by the 48th hour", last.later(4, 0, 48), 80);
        Kit.due("and not ahead of it", last.later(4, 0, 47), 79);
        Kit.due("sail of 48", last.sail(0), 48);
        FogKeys never = Kit.ported(front + "81;");
        never.breathe(0, 0, 0, 999);
        Kit.refused("no sail of more than 48", never, never.sail(0), 8);
        FogKeys top = Kit.ported("port 1 by 2;ship a at 0 0 to 0 1;ship b at 0 1 to 0 0;foggy 9;thins 1;");
        Kit.due("down", top.sail(0), 1);
        Kit.due("up", top.sail(1), 1);
        FogKeys side = Kit.ported("port 2 by 1;ship a at 0 0 to 1 0;ship b at 1 0 to 0 0;foggy 9;thins 1;");
        Kit.due("right", side.sail(0), 1);
        Kit.due("left", side.sail(1), 1);
        FogKeys slow = Kit.ported("port 2 by 1;ship a at 0 0 to 1 0 dark;gate g at 0 0 lets 2 open;thins 0;wind 1;foggy 4;");
        slow.breathe(0, 0, 0, 4);
        // 5 1, 6 2, 6 4.
        Kit.due("dark, where fog spreads", slow.sail(0), 3);
    }

    // Promise 41.
    private static void watchesClose() {
        FogKeys x = Kit.pictured(
            "######",
            "######",
            "######",
            "######",
            "######");
        Kit.due("corner to corner", x.watch(0, 0, 5, 4), 2);
        Kit.due("within", x.watch(1, 1, 3, 3), 4);
        Kit.due("side to within", x.watch(0, 2, 3, 2), 3);
        Kit.refused("beside", x, x.watch(2, 2, 2, 3), 9);
        Kit.refused("beside", x, x.watch(2, 2, 1, 2), 9);
        Kit.refused("one", x, x.watch(2, 2, 2, 2), 9);
        Kit.refused("no board", x, x.watch(6, 2, 6, 2), 2);
        Kit.refused("no board", x, x.watch(0, 0, 0, 5), 2);
        Kit.due("across", x.watch(0, 0, 1, 1), 2);
        FogKeys y = Kit.pictured(
            ".#.##.",
            "####.#",
            ".#.###");
        Kit.due("the two are not asked", y.watch(0, 0, 5, 0), 1);
        Kit.due("one board closes it", y.watch(0, 0, 2, 2), 1);
        FogKeys z = Kit.pictured(
            "##..##",
            "#.##.#",
            "##..##");
        Kit.due("no road", z.watch(0, 0, 5, 0), 0);
        Kit.due("one road around", z.watch(1, 0, 1, 2), 1);
        Kit.due("beside a clear board", z.watch(1, 1, 4, 1), 1);
        // The road that is found first must be given up in part for two to go.
        FogKeys w = Kit.pictured(
            "#.###",
            "#####",
            "#..##",
            "..###");
        Kit.due("given up in part", w.watch(1, 0, 2, 2), 2);
        FogKeys v = Kit.pictured(
            ".#.#.",
            "#####",
            "#.#.#",
            "#.###");
        Kit.due("given up over several boards", v.watch(3, 1, 1, 3), 2);
    }

    // Promise 42.
    private static void holdersTogether() {
        FogKeys x = Kit.ported(Kit.BASE);
        int[] due = {0, 0, 0, 1, 0, 1, 1, 1};
        for (int set = 0; set < 8; set++) {
            Kit.due("together(0, " + set + ")", x.together(0, set), due[set]);
        }
        Kit.due("together(1, 7)", x.together(1, 7), 1);
        Kit.refused("together(0, 8)", x, x.together(0, 8), 5);
        Kit.refused("together(0, -1)", x, x.together(0, -1), 5);
        Kit.refused("together(2, 8)", x, x.together(2, 8), 2);
    }

    private static FogKeys council() {
        return Kit.ported("port 1 by 1;gate a at 0 0 lets 1 quota 10;gate b at 0 0 lets 1 quota 14;gate c at 0 0 lets 1 quota 99;"
            + "gate d at 0 0 lets 1;holder e votes 1;holder f votes 4;holder g votes 6;holder h votes 4;");
    }

    // Promises 43 and 44.
    private static void fewestHolders() {
        FogKeys x = council();
        Kit.due("fewest(0)", x.fewest(0), 2);
        Kit.due("the least set", x.fewestSet(0), 6);
        Kit.due("fewest(1)", x.fewest(1), 3);
        Kit.due("fewestSet(1)", x.fewestSet(1), 14);
        Kit.due("fewest(3)", x.fewest(3), 1);
        Kit.due("fewestSet(3)", x.fewestSet(3), 1);
        Kit.refused("all can't", x, x.fewest(2), 8);
        Kit.refused("all can't", x, x.fewestSet(2), 8);
        Kit.refused("fewest(4)", x, x.fewest(4), 2);
        Kit.refused("fewestSet(-1)", x, x.fewestSet(-1), 2);
    }

    // Promise 45.
    private static void powerOfHolders() {
        FogKeys x = council();
        // 15 votes, 14 wanted: f, g, h are all needed, e adds nothing.
        Kit.fraction("power(1, 0)", x, x.power(1, 0), 0, 1);
        Kit.fraction("power(1, 1)", x, x.power(1, 1), 1, 3);
        // 10 wanted: g with f or h; or f, h alone are 8, with e 9: not enough. So g is always needed.
        Kit.fraction("power(0, 2)", x, x.power(0, 2), 2, 3);
        Kit.fraction("power(0, 3)", x, x.power(0, 3), 1, 6);
        Kit.fraction("power(0, 0)", x, x.power(0, 0), 0, 1);
        Kit.fraction("power(3, 0)", x, x.power(3, 0), 1, 4);
        Kit.refused("all can't", x, x.power(2, 0), 8);
        Kit.refused("no holder", x, x.power(2, 4), 2);
        Kit.refused("no gate", x, x.power(4, 0), 2);
        Kit.due("the fraction stays", x.bottom(), 4);
        FogKeys six = Kit.ported("port 1 by 1;gate a at 0 0 lets 1 quota 7;holder b votes 5;holder c votes 2;holder d votes 2;"
            + "holder e votes 1;holder f votes 1;holder g votes 1;");
        long top = 0;
        for (int i = 0; i < 6; i++) {
            six.power(0, i);
            top += six.top() * (60 / six.bottom());
            Kit.due("60 are enough below", 60 % six.bottom(), 0);
        }
        Kit.due("all power is 1", top, 60);
        // It is not with the first one if none, one of the three least, or all others are ahead.
        Kit.fraction("power(0, 0)", six, six.power(0, 0), 17, 30);
    }

    // Promises 46 and 47.
    private static void vetoAndIdle() {
        FogKeys x = council();
        Kit.due("veto(0)", x.veto(0), 4);
        Kit.due("veto(1)", x.veto(1), 14);
        Kit.due("veto(3)", x.veto(3), 0);
        Kit.refused("veto(2)", x, x.veto(2), 8);
        Kit.refused("veto(4)", x, x.veto(4), 2);
        Kit.due("idle(0)", x.idle(0), 1);
        Kit.due("idle(1)", x.idle(1), 1);
        Kit.due("idle(3)", x.idle(3), 0);
        Kit.refused("idle(2)", x, x.idle(2), 8);
        Kit.refused("idle(-1)", x, x.idle(-1), 2);
        FogKeys first = Kit.ported("port 1 by 1;gate a at 0 0 lets 1 quota 5;holder b votes 4;holder c votes 1;holder d votes 1;");
        Kit.due("the first has a veto", first.veto(0), 1);
        Kit.due("none is idle", first.idle(0), 0);
        FogKeys none = Kit.ported("port 1 by 1;gate a at 0 0 lets 1;");
        Kit.refused("no holders at all", none, none.veto(0), 8);
        Kit.refused("no holders at all", none, none.idle(0), 8);
        Kit.refused("no holders at all", none, none.fewest(0), 8);
        Kit.due("no holders at all", none.together(0, 0), 0);
    }

    // Promise 48.
    private static void reachOfHolders() {
        FogKeys x = council();
        Kit.due("reach(0)", x.reach(0), 0);
        Kit.due("reach(1)", x.reach(1), 8);
        Kit.due("reach(6)", x.reach(6), 9);
        Kit.due("reach(15)", x.reach(15), 11);
        Kit.refused("reach(16)", x, x.reach(16), 5);
        Kit.refused("reach(-1)", x, x.reach(-1), 5);
    }
}
