/** A test for each sentence of the document about plans (promises 9 to 12) that names a boundary case. */
final class PlanEdgesTest {
    private static final int LOWEST = Integer.MIN_VALUE;
    private static final int HIGHEST = Integer.MAX_VALUE;

    public static void main(String[] args) {
        reachOfAMiddleAlone();
        reachGoesWhereNoValveIs();
        reachGoesThroughOpenStuckValves();
        reachStopsAtShutValves();
        reachOfTheWholeNet();
        aSourceInTheReach();
        aSourceJustOutsideTheReach();
        aSourceInTheReachOfADryNet();
        theLowestAndTheHighestValve();
        justOneSideInTheReach();
        openAndNotStuck();
        leftOutWhenNoWaterIsBehind();
        leftOutWhenWaterIsBehindTheReachAlone();
        leftOutOneButNotTheOther();
        perhapsNoValve();
        noneWhenThereIsNoPlan();
        theMostValves();
        theNumberOfTheValveFromZero();
        noneWhenThereAreFewer();
        noValveOfNoPlan();
        nobodyIsDryWithoutCustomers();
        allTenAreDry();
        dryAlreadyIsNotDry();
        fedByAnotherWayIsNotDry();
        nobodyIsDryWithoutAPlan();
        askingChangesNothing();
        carriedOutAreTheValvesOfThePlanAlone();
        carriedOutAsFarAsDry();
        carriedOutTwice();
        carriedOutWithNoValve();
        nothingIsCarriedOutWithoutAPlan();
        Checks.end();
    }

    /** Three nodes, a source at 0, pipes 0: 0-1 and 1: 1-2, customers at 1 and 2. */
    private static WaterWorks twoPipes(int valves0, int valves1) {
        WaterWorks x = NetEdgesTest.withNodes(3);
        x.source(0, true);
        x.pipe(0, 1, valves0);
        x.pipe(1, 2, valves1);
        x.customer(1);
        x.customer(2);
        return x;
    }

    private static void reachOfAMiddleAlone() {
        Checks.part("9: the reach of a middle with open valves at both ends");
        WaterWorks x = twoPipes(3, 3);
        x.source(2, true);
        Checks.is("0 1 ", () -> PlanTest.plan(x, 0));
        Checks.is("2 3 ", () -> PlanTest.plan(x, 1));
    }

    private static void reachGoesWhereNoValveIs() {
        Checks.part("9: the reach goes through ends without a valve");
        WaterWorks x = twoPipes(1, 2);
        x.source(2, true);
        Checks.is("0 3 ", () -> PlanTest.plan(x, 0));
        Checks.is("0 3 ", () -> PlanTest.plan(x, 1));
    }

    private static void reachGoesThroughOpenStuckValves() {
        Checks.part("9: the reach goes through no valve that is open and not stuck");
        WaterWorks x = twoPipes(3, 3);
        x.source(2, true);
        x.stick(0, 1, true);
        Checks.is("0 2 ", () -> PlanTest.plan(x, 0));
        Checks.is("2 3 ", () -> PlanTest.plan(x, 1));
        x.stick(1, 0, true);
        Checks.is("0 3 ", () -> PlanTest.plan(x, 0));
        Checks.is("0 3 ", () -> PlanTest.plan(x, 1));
        x.stick(0, 1, false);
        Checks.is("0 1 ", () -> PlanTest.plan(x, 0));
        Checks.is("1 3 ", () -> PlanTest.plan(x, 1));
    }

    /** Behind the shut valve stands a source that would leave pipe 0 without a plan. */
    private static void reachStopsAtShutValves() {
        Checks.part("9: the reach goes through no shut valve (nor, of course, a shut one)");
        for (boolean stuck : new boolean[] {false, true}) {
            WaterWorks x = twoPipes(1, 1);
            x.source(2, true);
            x.turn(1, 0, false);
            x.stick(1, 0, stuck);
            Checks.is("0 ", () -> PlanTest.plan(x, 0));
            Checks.is(1, () -> x.shutOff(0));
            Checks.is(WaterWorks.NONE, () -> x.shutOff(1));
            WaterWorks y = twoPipes(1, 3);
            y.source(2, true);
            y.turn(1, 0, false);
            y.stick(1, 0, stuck);
            Checks.is("0 ", () -> PlanTest.plan(y, 0));
            Checks.is("3 ", () -> PlanTest.plan(y, 1));
        }
    }

    private static void reachOfTheWholeNet() {
        Checks.part("9: the reach of a net without valves");
        WaterWorks x = NetTest.line(12, 0);
        x.source(0, false);
        for (int i = 0; i < 11; i++) {
            int pipe = i;
            Checks.is(0, () -> x.shutOff(pipe));
        }
        x.source(11, true);
        for (int i = 0; i < 11; i++) {
            int pipe = i;
            Checks.is(WaterWorks.NONE, () -> x.shutOff(pipe));
        }
    }

    private static void aSourceInTheReach() {
        Checks.part("9: if there is a source in the reach, there is no plan");
        WaterWorks x = twoPipes(2, 3);
        Checks.is(WaterWorks.NONE, () -> x.shutOff(0));
        Checks.is("2 ", () -> PlanTest.plan(x, 1));
        WaterWorks y = twoPipes(3, 3);
        y.stick(0, 0, true);
        Checks.is(WaterWorks.NONE, () -> y.shutOff(0));
        y.stick(0, 1, true);
        Checks.is("2 ", () -> PlanTest.plan(y, 1));
        y.stick(1, 0, true);
        Checks.is(WaterWorks.NONE, () -> y.shutOff(1));
    }

    private static void aSourceJustOutsideTheReach() {
        Checks.part("9: a source behind one valve of the border");
        WaterWorks x = twoPipes(1, 0);
        Checks.is("0 ", () -> PlanTest.plan(x, 0));
        Checks.is("0 ", () -> PlanTest.plan(x, 1));
        x.source(2, true);
        Checks.is(WaterWorks.NONE, () -> x.shutOff(0));
        Checks.is(WaterWorks.NONE, () -> x.shutOff(1));
    }

    /** Even when a source that is in the reach is the only one, and all else is shut. */
    private static void aSourceInTheReachOfADryNet() {
        Checks.part("9: if there is a source in the reach, there is no plan, whatever is shut");
        WaterWorks x = twoPipes(2, 3);
        x.turn(0, 1, false);
        Checks.is(WaterWorks.NONE, () -> x.shutOff(0));
        Checks.is(0, () -> x.shutOff(1));
    }

    private static void theLowestAndTheHighestValve() {
        Checks.part("10: the valve at end e of pipe p has the number 2p + e");
        WaterWorks x = NetEdgesTest.withNodes(2);
        x.source(0, true);
        x.source(1, true);
        for (int i = 0; i < 16; i++) {
            int pipe = i;
            x.pipe(i % 2, 1 - i % 2, 3);
            Checks.is(2, () -> x.shutOff(pipe));
            Checks.is(2 * pipe, () -> x.plan(pipe, 0));
            Checks.is(2 * pipe + 1, () -> x.plan(pipe, 1));
        }
    }

    /** Valve 2 stands between two places of the reach; 5, 6 and 7, behind valve 4, have no side in it. */
    private static void justOneSideInTheReach() {
        Checks.part("9: the border are the valves of which just one side is in the reach");
        WaterWorks x = NetEdgesTest.withNodes(4);
        x.pipe(0, 1, 0);
        x.pipe(0, 1, 1);
        x.pipe(1, 2, 3);
        x.pipe(2, 3, 3);
        x.source(3, true);
        Checks.is("4 ", () -> PlanTest.plan(x, 0));
        Checks.is("4 ", () -> PlanTest.plan(x, 1));
        Checks.is(1, () -> x.carryOut(0));
        Checks.is(false, () -> x.turn(1, 0, true));
        Checks.is(true, () -> x.turn(2, 0, true));
        Checks.is(false, () -> x.turn(2, 1, true));
        Checks.is(false, () -> x.turn(3, 0, true));
    }

    private static void openAndNotStuck() {
        Checks.part("9: the border are the valves, open and not stuck");
        WaterWorks x = twoPipes(3, 3);
        x.source(2, true);
        x.turn(0, 0, false);
        Checks.is("1 ", () -> PlanTest.plan(x, 0));
        x.stick(0, 0, true);
        Checks.is("1 ", () -> PlanTest.plan(x, 0));
        x.stick(0, 1, true);
        Checks.is("2 ", () -> PlanTest.plan(x, 0));
        x.stick(0, 0, false);
        Checks.is("2 ", () -> PlanTest.plan(x, 0));
        x.turn(0, 0, true);
        Checks.is("0 2 ", () -> PlanTest.plan(x, 0));
    }

    private static void leftOutWhenNoWaterIsBehind() {
        Checks.part("9: one is left out, if the middle is not fed, when the others are shut");
        WaterWorks x = twoPipes(3, 3);
        Checks.is("0 ", () -> PlanTest.plan(x, 0));
        Checks.is("2 ", () -> PlanTest.plan(x, 1));
        x.source(0, false);
        x.source(2, true);
        Checks.is("1 ", () -> PlanTest.plan(x, 0));
        Checks.is("3 ", () -> PlanTest.plan(x, 1));
    }

    /** The water behind valve 3 comes through the reach itself, so it is not needed. */
    private static void leftOutWhenWaterIsBehindTheReachAlone() {
        Checks.part("9: one is left out whose water comes through the reach");
        WaterWorks x = NetEdgesTest.withNodes(4);
        x.pipe(0, 1, 1);
        x.pipe(1, 2, 1);
        x.pipe(2, 3, 0);
        x.pipe(3, 1, 2);
        x.customer(3);
        x.source(0, true);
        Checks.is("0 ", () -> PlanTest.plan(x, 0));
        Checks.is(1, () -> x.dry(0));
        x.source(2, true);
        Checks.is("0 2 7 ", () -> PlanTest.plan(x, 0));
        Checks.is(0, () -> x.dry(0));
    }

    private static void leftOutOneButNotTheOther() {
        Checks.part("9: the others of the border that were not left out yet");
        for (int wet = 1; wet < 4; wet++) {
            WaterWorks x = NetEdgesTest.withNodes(4);
            x.pipe(0, 1, 0);
            x.pipe(0, 2, 1);
            x.pipe(1, 3, 1);
            x.source(2, (wet & 1) != 0);
            x.source(3, (wet & 2) != 0);
            String due = wet == 1 ? "2 " : wet == 2 ? "4 " : "2 4 ";
            Checks.is(due, () -> PlanTest.plan(x, 0));
        }
    }

    private static void perhapsNoValve() {
        Checks.part("9: how many valves it has (perhaps 0)");
        WaterWorks x = twoPipes(3, 3);
        x.source(0, false);
        Checks.is(0, () -> x.shutOff(0));
        Checks.is(0, () -> x.shutOff(1));
        WaterWorks y = twoPipes(3, 3);
        y.turn(0, 0, false);
        Checks.is(0, () -> y.shutOff(0));
        Checks.is(0, () -> y.shutOff(1));
        WaterWorks z = twoPipes(1, 0);
        z.turn(0, 0, false);
        Checks.is(0, () -> z.shutOff(1));
    }

    private static void noneWhenThereIsNoPlan() {
        Checks.part("9: NONE when there is none");
        WaterWorks x = twoPipes(0, 1);
        Checks.is(-1, () -> x.shutOff(0));
        Checks.is(1, () -> x.shutOff(1));
        x.source(0, false);
        Checks.is(0, () -> x.shutOff(0));
        x.source(1, true);
        Checks.is(-1, () -> x.shutOff(0));
    }

    /** Pipe 0 without valves, and 15 more from its nodes to sources. */
    private static WaterWorks star() {
        WaterWorks x = NetEdgesTest.withNodes(12);
        x.pipe(0, 1, 0);
        for (int i = 1; i < 16; i++) {
            int to = 2 + i % 10;
            x.pipe(i % 2 == 0 ? to : 0, i % 2 == 0 ? 1 : to, 3);
            x.source(to, true);
        }
        return x;
    }

    private static void theMostValves() {
        Checks.part("10: the most valves that a plan can have");
        WaterWorks x = star();
        Checks.is(15, () -> x.shutOff(0));
        Checks.is("2 5 6 9 10 13 14 17 18 21 22 25 26 29 30 ", () -> PlanTest.plan(x, 0));
        Checks.is(15, () -> x.carryOut(0));
        Checks.is(0, () -> x.shutOff(0));
    }

    private static void theNumberOfTheValveFromZero() {
        Checks.part("10: the number of the i-th valve (from 0), by rising numbers");
        WaterWorks x = star();
        Checks.is(2, () -> x.plan(0, 0));
        Checks.is(5, () -> x.plan(0, 1));
        Checks.is(30, () -> x.plan(0, 14));
    }

    private static void noneWhenThereAreFewer() {
        Checks.part("10: NONE when there are fewer");
        WaterWorks x = star();
        for (int i : new int[] {15, 16, 31, 32, 33, HIGHEST, -1, LOWEST}) {
            Checks.is(WaterWorks.NONE, () -> x.plan(0, i));
        }
        WaterWorks y = twoPipes(3, 3);
        Checks.is(0, () -> y.plan(0, 0));
        Checks.is(WaterWorks.NONE, () -> y.plan(0, 1));
        y.source(0, false);
        Checks.is(WaterWorks.NONE, () -> y.plan(0, 0));
    }

    private static void noValveOfNoPlan() {
        Checks.part("10: NONE when there is no plan");
        WaterWorks x = twoPipes(2, 3);
        x.source(2, true);
        for (int i : new int[] {0, 1, -1, HIGHEST, LOWEST}) {
            Checks.is(WaterWorks.NONE, () -> x.plan(0, i));
        }
        Checks.is(2, () -> x.plan(1, 0));
    }

    private static void nobodyIsDryWithoutCustomers() {
        Checks.part("11: the dry, without customers");
        WaterWorks x = NetTest.line(3, 3);
        Checks.is(1, () -> x.shutOff(0));
        Checks.is(0, () -> x.dry(0));
    }

    private static void allTenAreDry() {
        Checks.part("11: the dry as bits");
        WaterWorks x = NetTest.line(12, 1);
        for (int i = 0; i < 10; i++) {
            x.customer(i + 1);
        }
        Checks.is(1023, () -> x.dry(0));
        Checks.is(1022, () -> x.dry(1));
        Checks.is(512, () -> x.dry(9));
        Checks.is(0, () -> x.dry(10));
    }

    private static void dryAlreadyIsNotDry() {
        Checks.part("11: the dry are the customers who are fed as valves are");
        WaterWorks x = twoPipes(3, 3);
        Checks.is(0b11, () -> x.dry(0));
        x.turn(1, 1, false);
        Checks.is(0b01, () -> x.dry(0));
        Checks.is(0, () -> x.dry(1));
        x.turn(0, 0, false);
        Checks.is(0, () -> x.dry(0));
    }

    private static void fedByAnotherWayIsNotDry() {
        Checks.part("11: and not fed when those of the plan are shut");
        WaterWorks x = twoPipes(3, 3);
        x.customer(0);
        Checks.is(0b011, () -> x.dry(0));
        x.pipe(0, 2, 0);
        Checks.is(0, () -> x.dry(0));
        Checks.is(0, () -> x.dry(1));
        x.turn(1, 0, false);
        Checks.is(0b001, () -> x.dry(0));
        x.source(1, true);
        Checks.is(0, () -> x.dry(0));
    }

    private static void nobodyIsDryWithoutAPlan() {
        Checks.part("11: 0 when there is none");
        WaterWorks x = twoPipes(0, 1);
        Checks.is(WaterWorks.NONE, () -> x.shutOff(0));
        Checks.is(0, () -> x.dry(0));
        Checks.is(0b10, () -> x.dry(1));
    }

    private static void askingChangesNothing() {
        Checks.part("9 to 11: asking changes nothing");
        WaterWorks x = twoPipes(3, 3);
        for (int i = 0; i < 2; i++) {
            Checks.is(1, () -> x.shutOff(0));
            Checks.is(0, () -> x.plan(0, 0));
            Checks.is(0b11, () -> x.dry(0));
            Checks.is("11", () -> NetTest.allFed(x, 2));
        }
        Checks.is(false, () -> x.turn(0, 0, true));
    }

    private static void carriedOutAreTheValvesOfThePlanAlone() {
        Checks.part("12: the valves of the plan for a pipe are shut: how many");
        WaterWorks x = twoPipes(3, 3);
        Checks.is(1, () -> x.carryOut(1));
        Checks.is(false, () -> x.turn(0, 0, true));
        Checks.is(false, () -> x.turn(0, 1, true));
        Checks.is(true, () -> x.turn(1, 0, true));
        Checks.is(false, () -> x.turn(1, 1, true));
        x.source(2, true);
        Checks.is(2, () -> x.carryOut(1));
        Checks.is(false, () -> x.turn(0, 1, true));
        Checks.is(true, () -> x.turn(1, 0, true));
        Checks.is(true, () -> x.turn(1, 1, true));
    }

    private static void carriedOutAsFarAsDry() {
        Checks.part("12: those that are shut make dry whom dry() told");
        WaterWorks x = NetTest.line(10, 3);
        for (int i = 0; i < 10; i++) {
            x.customer(i);
        }
        x.pipe(0, 9, 3);
        x.turn(6, 0, false);
        Checks.is("1111111111", () -> NetTest.allFed(x, 10));
        Checks.is(0b0001111100, () -> x.dry(1));
        Checks.is(1, () -> x.carryOut(1));
        Checks.is("1100000111", () -> NetTest.allFed(x, 10));
    }

    private static void carriedOutTwice() {
        Checks.part("12: a plan that was carried out already");
        WaterWorks x = twoPipes(3, 3);
        Checks.is(1, () -> x.carryOut(0));
        Checks.is(0, () -> x.carryOut(0));
        Checks.is("00", () -> NetTest.allFed(x, 2));
        Checks.is(true, () -> x.turn(0, 0, true));
        Checks.is(1, () -> x.carryOut(0));
    }

    private static void carriedOutWithNoValve() {
        Checks.part("12: a plan of no valves");
        WaterWorks x = twoPipes(3, 3);
        x.source(0, false);
        Checks.is(0, () -> x.carryOut(0));
        x.source(0, true);
        Checks.is("11", () -> NetTest.allFed(x, 2));
        Checks.is(false, () -> x.turn(0, 0, true));
        Checks.is(false, () -> x.turn(0, 1, true));
    }

    private static void nothingIsCarriedOutWithoutAPlan() {
        Checks.part("12: NONE when there is none");
        WaterWorks x = twoPipes(2, 3);
        Checks.is(WaterWorks.NONE, () -> x.carryOut(0));
        Checks.is("11", () -> NetTest.allFed(x, 2));
        Checks.is(false, () -> x.turn(0, 1, true));
        Checks.is(false, () -> x.turn(1, 0, true));
    }
}
