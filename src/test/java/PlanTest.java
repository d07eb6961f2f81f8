/** Promises 9 to 12: plans, their valves, who is dry, and carrying them out. */
final class PlanTest {
    private static final int LOWEST = Integer.MIN_VALUE;
    private static final int HIGHEST = Integer.MAX_VALUE;

    public static void main(String[] args) {
        howMany();
        stuckValvesLetThrough();
        shutValvesStop();
        deadEndsAreLeftOut();
        whichValves();
        valvesByRisingNumbers();
        whoIsDry();
        notDryByAnotherWay();
        carryingOut();
        nothingToCarryOut();
        sixteenPipes();
        Checks.end();
    }

    /** Two sources, at nodes 0 and 3, and pipes 0: 0-1, 1: 1-2, 2: 2-3 with valves at all ends. */
    private static WaterWorks twoSources() {
        WaterWorks x = NetTest.line(4, 3);
        x.source(3, true);
        for (int i = 0; i < 4; i++) {
            x.customer(i);
        }
        return x;
    }

    static String plan(WaterWorks x, int pipe) {
        StringBuilder all = new StringBuilder();
        for (int i = 0; i < 34 && x.plan(pipe, i) != WaterWorks.NONE; i++) {
            all.append(x.plan(pipe, i)).append(' ');
        }
        return all.toString();
    }

    private static void howMany() {
        Checks.part("promise 9");
        WaterWorks x = twoSources();
        Checks.is(2, () -> x.shutOff(0));
        Checks.is(2, () -> x.shutOff(1));
        Checks.is(2, () -> x.shutOff(2));
        x.source(3, false);
        Checks.is(1, () -> x.shutOff(0));
        Checks.is(1, () -> x.shutOff(1));
        x.source(0, false);
        Checks.is(0, () -> x.shutOff(0));
        Checks.fails(Checks.INDEX, () -> x.shutOff(3));
        Checks.fails(Checks.INDEX, () -> x.shutOff(-1));
        Checks.fails(Checks.INDEX, () -> x.shutOff(HIGHEST));
        x.pipe(3, 0, 0);
        Checks.is(0, () -> x.shutOff(3));
        x.source(0, true);
        Checks.is(WaterWorks.NONE, () -> x.shutOff(3));
        Checks.is(2, () -> x.shutOff(1));
    }

    private static void stuckValvesLetThrough() {
        Checks.part("promise 9");
        WaterWorks x = twoSources();
        x.stick(1, 0, true);
        Checks.is("1 3 ", () -> plan(x, 1));
        x.stick(0, 1, true);
        Checks.is("0 3 ", () -> plan(x, 1));
        Checks.is("0 3 ", () -> plan(x, 0));
        x.stick(0, 0, true);
        Checks.is(WaterWorks.NONE, () -> x.shutOff(1));
        Checks.is(WaterWorks.NONE, () -> x.shutOff(0));
        Checks.is(2, () -> x.shutOff(2));
        x.stick(0, 0, false);
        Checks.is(2, () -> x.shutOff(1));
    }

    private static void shutValvesStop() {
        Checks.part("promise 9");
        WaterWorks x = twoSources();
        x.turn(1, 0, false);
        x.stick(1, 0, true);
        Checks.is("3 ", () -> plan(x, 1));
        Checks.is("0 ", () -> plan(x, 0));
        x.stick(1, 0, false);
        Checks.is("3 ", () -> plan(x, 1));
        x.stick(1, 1, true);
        Checks.is("4 ", () -> plan(x, 1));
        // A valve that is shut already is not of the border.
        x.turn(2, 0, false);
        Checks.is("", () -> plan(x, 1));
        Checks.is(0, () -> x.shutOff(1));
        Checks.is("5 ", () -> plan(x, 2));
    }

    /** A border valve behind which there is no water need not be shut. */
    private static void deadEndsAreLeftOut() {
        Checks.part("promise 9");
        WaterWorks x = NetTest.line(5, 2);
        // Reach of pipe 2: its middle and node 2; border 3 (at node 2, pipe 1) and 5 (at node 3).
        Checks.is("3 ", () -> plan(x, 2));
        Checks.is(1, () -> x.shutOff(2));
        x.source(4, true);
        Checks.is("3 5 ", () -> plan(x, 2));
        x.source(0, false);
        Checks.is("5 ", () -> plan(x, 2));
        x.pipe(4, 1, 1);
        Checks.is("3 5 ", () -> plan(x, 2));
        x.turn(4, 0, false);
        Checks.is("5 ", () -> plan(x, 2));
    }

    private static void whichValves() {
        Checks.part("promise 10");
        WaterWorks x = twoSources();
        Checks.is(2, () -> x.plan(1, 0));
        Checks.is(3, () -> x.plan(1, 1));
        Checks.is(WaterWorks.NONE, () -> x.plan(1, 2));
        Checks.is(WaterWorks.NONE, () -> x.plan(1, -1));
        Checks.is(WaterWorks.NONE, () -> x.plan(1, LOWEST));
        Checks.is(WaterWorks.NONE, () -> x.plan(1, HIGHEST));
        Checks.fails(Checks.INDEX, () -> x.plan(3, 0));
        Checks.fails(Checks.INDEX, () -> x.plan(-1, 0));
        Checks.fails(Checks.INDEX, () -> x.plan(LOWEST, -1));
        x.stick(1, 0, true);
        x.stick(0, 1, true);
        x.stick(0, 0, true);
        Checks.is(WaterWorks.NONE, () -> x.plan(1, 0));
        // Asking changes nothing.
        Checks.is(4, () -> x.plan(2, 0));
        Checks.is(4, () -> x.plan(2, 0));
        Checks.is(true, () -> x.fed(2));
    }

    private static void valvesByRisingNumbers() {
        Checks.part("promise 10");
        WaterWorks x = new WaterWorks();
        x.node();
        x.node();
        x.source(0, true);
        for (int i = 0; i < 16; i++) {
            x.pipe(i % 2, 1 - i % 2, i == 9 ? 0 : 3);
        }
        Checks.is(WaterWorks.NONE, () -> x.shutOff(9));
        Checks.is("30 31 ", () -> plan(x, 15));
        x.source(0, false);
        Checks.is("", () -> plan(x, 15));
        WaterWorks y = new WaterWorks();
        for (int i = 0; i < 12; i++) {
            y.node();
            if (i > 0) {
                y.pipe(i % 2 == 0 ? 0 : i, i % 2 == 0 ? i : 0, i == 6 ? 0 : 3);
                y.source(i, i != 6);
            }
        }
        Checks.is("1 2 5 6 9 13 14 17 18 21 ", () -> plan(y, 5));
        Checks.is(10, () -> y.shutOff(5));
        Checks.is(21, () -> y.plan(5, 9));
        Checks.is(WaterWorks.NONE, () -> y.plan(5, 10));
    }

    private static void whoIsDry() {
        Checks.part("promise 11");
        WaterWorks x = twoSources();
        Checks.is(0, () -> x.dry(0));
        Checks.is(0, () -> x.dry(1));
        x.source(3, false);
        Checks.is(0b1110, () -> x.dry(0));
        Checks.is(0b1100, () -> x.dry(1));
        Checks.is(0b1000, () -> x.dry(2));
        Checks.is(0b1000, () -> x.dry(2));
        x.turn(1, 1, false);
        Checks.is(0b0010, () -> x.dry(0));
        Checks.is(0, () -> x.dry(2));
        x.stick(0, 0, true);
        x.stick(0, 1, true);
        Checks.is(WaterWorks.NONE, () -> x.shutOff(0));
        Checks.is(0, () -> x.dry(0));
        Checks.fails(Checks.INDEX, () -> x.dry(3));
        Checks.fails(Checks.INDEX, () -> x.dry(-1));
        Checks.fails(Checks.INDEX, () -> x.dry(HIGHEST));
        Checks.is(true, () -> x.fed(1));
    }

    private static void notDryByAnotherWay() {
        Checks.part("promise 11");
        WaterWorks x = NetTest.line(3, 1);
        for (int i = 0; i < 10; i++) {
            x.customer(i == 9 ? 2 : 1);
        }
        Checks.is(0b1111111111, () -> x.dry(0));
        Checks.is(0b1000000000, () -> x.dry(1));
        x.pipe(0, 2, 0);
        Checks.is("0 2 ", () -> plan(x, 0));
        Checks.is(0b0111111111, () -> x.dry(0));
        // The reach of pipe 1 now has the source, by node 2 and pipe 2.
        Checks.is(0, () -> x.dry(1));
    }

    private static void carryingOut() {
        Checks.part("promise 12");
        WaterWorks x = twoSources();
        Checks.is(2, () -> x.carryOut(0));
        Checks.is(true, () -> x.fed(1));
        Checks.is(true, () -> x.turn(0, 0, true));
        Checks.is(true, () -> x.turn(0, 1, true));
        x.source(3, false);
        Checks.is(1, () -> x.carryOut(1));
        Checks.is(false, () -> x.fed(2));
        Checks.is(true, () -> x.fed(1));
        Checks.is(0, () -> x.carryOut(1));
        Checks.is(0, () -> x.shutOff(1));
        // Only the valve of the plan was shut; that at the other end was left out.
        Checks.is(false, () -> x.turn(1, 1, true));
        Checks.is(true, () -> x.turn(1, 0, true));
        Checks.fails(Checks.INDEX, () -> x.carryOut(3));
        Checks.fails(Checks.INDEX, () -> x.carryOut(-1));
        Checks.fails(Checks.INDEX, () -> x.carryOut(LOWEST));
    }

    private static void nothingToCarryOut() {
        Checks.part("promise 12");
        WaterWorks x = NetTest.line(3, 3);
        x.customer(2);
        x.stick(0, 0, true);
        Checks.is(WaterWorks.NONE, () -> x.carryOut(0));
        Checks.is(true, () -> x.fed(0));
        Checks.is(false, () -> x.turn(0, 1, true));
        Checks.is(1, () -> x.carryOut(1));
        Checks.is(false, () -> x.fed(0));
        x.stick(0, 1, true);
        Checks.is(false, () -> x.fed(0));
        Checks.is(true, () -> x.turn(1, 0, true));
        Checks.is(true, () -> x.fed(0));
    }

    /** The highest valve, number 31, is one like the others. */
    private static void sixteenPipes() {
        Checks.part("promise 12");
        WaterWorks x = new WaterWorks();
        x.node();
        x.node();
        x.node();
        for (int i = 0; i < 15; i++) {
            x.pipe(0, 1, 3);
        }
        x.pipe(1, 2, 3);
        x.source(2, true);
        x.customer(0);
        Checks.is("31 ", () -> plan(x, 15));
        Checks.is(1, () -> x.dry(15));
        Checks.is(1, () -> x.carryOut(15));
        Checks.is(false, () -> x.fed(0));
        Checks.is(true, () -> x.turn(15, 1, true));
        Checks.is(true, () -> x.stick(15, 1, true));
        Checks.is(WaterWorks.NONE, () -> x.shutOff(15));
        Checks.fails(Checks.STATE, () -> x.turn(15, 1, false));
    }
}
