/** A test for each sentence of the document about the net (promises 1 to 8) that names a boundary case. */
final class NetEdgesTest {
    private static final int LOWEST = Integer.MIN_VALUE;
    private static final int HIGHEST = Integer.MAX_VALUE;

    public static void main(String[] args) {
        nothingIsEntered();
        dayZero();
        theLastCallOfAnObject();
        nodesHaveNumbersInOrder();
        thereAreTwelveNodes();
        toAnotherNode();
        severalPipesBetweenTwoNodes();
        valvesIsNoNumberOfTwoBits();
        aValveForEachBit();
        theNodeAtEachEnd();
        pipesHaveNumbersInOrder();
        thereAreSixteenPipes();
        answersWhetherItWasASource();
        noSourceAndAllSources();
        aSourceWithoutAPipe();
        customersHaveNumbersInOrder();
        thereAreTenCustomers();
        allCustomersAtOneNode();
        atFirstOpen();
        whetherItWasTurnedOtherwise();
        thereIsNoneToTurn();
        theEndsToTurn();
        aStuckValveStaysAsItIs();
        whetherItWasStuckOtherwise();
        thereIsNoneToStick();
        theEndsToStick();
        connectedIfNoValveIsThereOrItIsOpen();
        stuckOrNotIsNoMatterToTheWater();
        fedFromAfar();
        fedAroundARing();
        fedByOnePipeOfSixteen();
        Checks.end();
    }

    static WaterWorks withNodes(int nodes) {
        WaterWorks x = new WaterWorks();
        for (int i = 0; i < nodes; i++) {
            x.node();
        }
        return x;
    }

    /** A source at node 0, a pipe from it to node 1, and a customer there. */
    private static WaterWorks onePipe(int valves) {
        WaterWorks x = withNodes(2);
        x.source(0, true);
        x.pipe(0, 1, valves);
        x.customer(1);
        return x;
    }

    private static void nothingIsEntered() {
        Checks.part("1: nothing is entered");
        WaterWorks x = new WaterWorks();
        Checks.fails(Checks.INDEX, () -> x.source(0, true));
        Checks.fails(Checks.INDEX, () -> x.shutOff(0));
        Checks.fails(Checks.INDEX, () -> x.fed(0));
        Checks.is(0, () -> x.node());
        Checks.is(1, () -> x.node());
        Checks.is(0, () -> x.pipe(0, 1, 3));
        Checks.is(0, () -> x.customer(0));
        Checks.is(false, () -> x.fed(0));
        Checks.is(false, () -> x.source(0, true));
        Checks.fails(Checks.NO_SUCH, () -> x.amend(0, 0, 0));
        Checks.fails(Checks.NO_SUCH, () -> x.bill(0, 1));
        Checks.is(0, () -> x.correct(0));
        Checks.is(0, () -> x.pay(0, 0));
        Checks.is(1, () -> x.tariff(0, 0));
    }

    private static void dayZero() {
        Checks.part("1: day 0");
        WaterWorks x = withNodes(1);
        x.customer(0);
        x.install(0, 1, 0);
        Checks.is(0, () -> x.used(0, 0, 0));
        Checks.fails(Checks.NO_SUCH, () -> x.used(0, 0, 1));
        Checks.is(400, () -> x.pass(400));
    }

    private static void theLastCallOfAnObject() {
        Checks.part("an object is used for at most 512 calls");
        WaterWorks x = withNodes(1);
        x.customer(0);
        for (int day = 1; day <= 400; day++) {
            int due = day;
            Checks.is(due, () -> x.pass(1));
        }
        for (int paid = 1; paid <= 109; paid++) {
            int due = -paid;
            Checks.is(due, () -> x.pay(0, 1));
        }
        Checks.is(-109, () -> x.pay(0, 0));
    }

    private static void nodesHaveNumbersInOrder() {
        Checks.part("2: nodes 0 .. 11 have numbers in the order in which they are entered");
        WaterWorks x = new WaterWorks();
        for (int i = 0; i < 12; i++) {
            int node = i;
            Checks.fails(Checks.INDEX, () -> x.source(node, false));
            Checks.is(node, () -> x.node());
            Checks.is(false, () -> x.source(node, false));
        }
    }

    private static void thereAreTwelveNodes() {
        Checks.part("2: IllegalStateException: there are 12");
        WaterWorks x = withNodes(11);
        Checks.is(11, () -> x.node());
        Checks.fails(Checks.STATE, () -> x.node());
        Checks.fails(Checks.STATE, () -> x.node());
        Checks.is(false, () -> x.source(11, false));
        Checks.fails(Checks.INDEX, () -> x.source(12, false));
    }

    private static void toAnotherNode() {
        Checks.part("3: IllegalArgumentException: a and b are the same");
        WaterWorks x = withNodes(12);
        Checks.fails(Checks.ARGUMENT, () -> x.pipe(0, 0, 0));
        Checks.fails(Checks.ARGUMENT, () -> x.pipe(0, 0, 3));
        Checks.fails(Checks.ARGUMENT, () -> x.pipe(11, 11, 1));
        Checks.fails(Checks.INDEX, () -> x.shutOff(0));
        Checks.is(0, () -> x.pipe(0, 11, 0));
        Checks.is(1, () -> x.pipe(11, 0, 0));
        Checks.is(2, () -> x.pipe(10, 11, 0));
    }

    private static void severalPipesBetweenTwoNodes() {
        Checks.part("3: a pipe goes from one node to another one");
        WaterWorks x = onePipe(1);
        Checks.is(1, () -> x.pipe(0, 1, 1));
        Checks.is(2, () -> x.pipe(1, 0, 1));
        for (int i = 0; i < 3; i++) {
            int pipe = i;
            Checks.is(true, () -> x.fed(0));
            Checks.is(true, () -> x.turn(pipe, 0, false));
        }
        Checks.is(false, () -> x.fed(0));
    }

    private static void valvesIsNoNumberOfTwoBits() {
        Checks.part("3: IllegalArgumentException: valves is not 0 .. 3");
        WaterWorks x = withNodes(2);
        Checks.fails(Checks.ARGUMENT, () -> x.pipe(0, 1, -1));
        Checks.fails(Checks.ARGUMENT, () -> x.pipe(0, 1, 4));
        Checks.fails(Checks.ARGUMENT, () -> x.pipe(0, 1, 7));
        Checks.fails(Checks.ARGUMENT, () -> x.pipe(0, 1, LOWEST));
        Checks.fails(Checks.ARGUMENT, () -> x.pipe(0, 1, HIGHEST));
        Checks.fails(Checks.INDEX, () -> x.shutOff(0));
        Checks.is(0, () -> x.pipe(0, 1, 0));
        Checks.is(1, () -> x.pipe(0, 1, 3));
    }

    private static void aValveForEachBit() {
        Checks.part("3: valves has bit e if there is a valve at end e");
        for (int valves = 0; valves < 4; valves++) {
            for (int end = 0; end < 2; end++) {
                WaterWorks x = onePipe(valves);
                boolean isThere = (valves >> end & 1) == 1;
                int e = end;
                Checks.is(isThere ? true : Checks.NO_SUCH, () -> x.turn(0, e, false));
                Checks.is(!isThere, () -> x.fed(0));
            }
        }
    }

    /** The middle is connected with the node at the end without a valve, so a source there allows no plan. */
    private static void theNodeAtEachEnd() {
        Checks.part("3: where it meets these, at its end 0 and its end 1");
        for (int end = 0; end < 2; end++) {
            WaterWorks x = withNodes(3);
            x.pipe(2, 1, 1 << end);
            int nodeWithValve = end == 0 ? 2 : 1;
            int other = end == 0 ? 1 : 2;
            int valve = end;
            x.source(nodeWithValve, true);
            Checks.is(valve, () -> x.plan(0, 0));
            Checks.is(1, () -> x.shutOff(0));
            x.source(nodeWithValve, false);
            x.source(other, true);
            Checks.is(WaterWorks.NONE, () -> x.shutOff(0));
        }
    }

    private static void pipesHaveNumbersInOrder() {
        Checks.part("3: pipes 0 .. 15 have numbers in the order in which they are entered");
        WaterWorks x = withNodes(2);
        for (int i = 0; i < 16; i++) {
            int pipe = i;
            Checks.fails(Checks.INDEX, () -> x.shutOff(pipe));
            Checks.is(pipe, () -> x.pipe(0, 1, 0));
            Checks.is(0, () -> x.shutOff(pipe));
        }
    }

    private static void thereAreSixteenPipes() {
        Checks.part("3: IllegalStateException: there are 16");
        WaterWorks x = withNodes(2);
        for (int i = 0; i < 15; i++) {
            x.pipe(0, 1, 0);
        }
        Checks.is(15, () -> x.pipe(1, 0, 3));
        Checks.fails(Checks.STATE, () -> x.pipe(0, 1, 0));
        Checks.fails(Checks.STATE, () -> x.pipe(1, 0, 3));
        Checks.is(0, () -> x.shutOff(15));
        Checks.fails(Checks.INDEX, () -> x.shutOff(16));
    }

    /** source() may answer false and change something, as the document says of it alone. */
    private static void answersWhetherItWasASource() {
        Checks.part("4: answers whether it was");
        WaterWorks x = withNodes(12);
        x.customer(11);
        Checks.is(false, () -> x.source(11, false));
        Checks.is(false, () -> x.fed(0));
        Checks.is(false, () -> x.source(11, true));
        Checks.is(true, () -> x.fed(0));
        Checks.is(true, () -> x.source(11, true));
        Checks.is(true, () -> x.fed(0));
        Checks.is(true, () -> x.source(11, false));
        Checks.is(false, () -> x.fed(0));
        Checks.is(false, () -> x.source(11, false));
    }

    private static void noSourceAndAllSources() {
        Checks.part("4: some nodes are sources");
        WaterWorks x = NetTest.line(10, 3);
        for (int i = 0; i < 10; i++) {
            x.customer(i);
        }
        Checks.is("1111111111", () -> NetTest.allFed(x, 10));
        x.source(0, false);
        Checks.is("0000000000", () -> NetTest.allFed(x, 10));
        for (int i = 0; i < 10; i++) {
            x.source(i, true);
        }
        for (int i = 0; i < 9; i++) {
            x.turn(i, 0, false);
            x.turn(i, 1, false);
        }
        Checks.is("1111111111", () -> NetTest.allFed(x, 10));
        x.source(9, false);
        Checks.is("1111111110", () -> NetTest.allFed(x, 10));
    }

    private static void aSourceWithoutAPipe() {
        Checks.part("8: what is connected with a source is fed");
        WaterWorks x = withNodes(2);
        x.customer(0);
        x.customer(1);
        Checks.is("00", () -> NetTest.allFed(x, 2));
        x.source(0, true);
        Checks.is("10", () -> NetTest.allFed(x, 2));
    }

    private static void customersHaveNumbersInOrder() {
        Checks.part("5: customers 0 .. 9");
        WaterWorks x = withNodes(12);
        for (int i = 0; i < 10; i++) {
            int customer = i;
            Checks.fails(Checks.INDEX, () -> x.fed(customer));
            Checks.is(customer, () -> x.customer(11 - customer));
            Checks.is(false, () -> x.fed(customer));
        }
        x.source(11, true);
        x.source(2, true);
        Checks.is("1000000001", () -> NetTest.allFed(x, 10));
    }

    private static void thereAreTenCustomers() {
        Checks.part("5: IllegalStateException: there are 10");
        WaterWorks x = withNodes(2);
        for (int i = 0; i < 9; i++) {
            x.customer(0);
        }
        Checks.is(9, () -> x.customer(1));
        Checks.fails(Checks.STATE, () -> x.customer(0));
        Checks.fails(Checks.STATE, () -> x.customer(1));
        x.source(1, true);
        Checks.is("0000000001", () -> NetTest.allFed(x, 10));
        Checks.fails(Checks.INDEX, () -> x.fed(10));
    }

    private static void allCustomersAtOneNode() {
        Checks.part("5: customers are each at a node, and fed when that is");
        WaterWorks x = onePipe(2);
        for (int i = 1; i < 10; i++) {
            x.customer(1);
        }
        Checks.is("1111111111", () -> NetTest.allFed(x, 10));
        x.turn(0, 1, false);
        Checks.is("0000000000", () -> NetTest.allFed(x, 10));
    }

    private static void atFirstOpen() {
        Checks.part("6: a valve is at first open");
        for (int end = 0; end < 2; end++) {
            WaterWorks x = onePipe(3);
            int e = end;
            Checks.is(true, () -> x.fed(0));
            Checks.is(false, () -> x.turn(0, e, true));
            Checks.is(true, () -> x.turn(0, e, false));
        }
    }

    private static void whetherItWasTurnedOtherwise() {
        Checks.part("6: answers whether it was otherwise");
        for (int end = 0; end < 2; end++) {
            WaterWorks x = onePipe(3);
            int e = end;
            Checks.is(true, () -> x.turn(0, e, false));
            Checks.is(false, () -> x.turn(0, e, false));
            Checks.is(false, () -> x.fed(0));
            Checks.is(true, () -> x.turn(0, e, true));
            Checks.is(false, () -> x.turn(0, e, true));
            Checks.is(true, () -> x.fed(0));
        }
    }

    private static void thereIsNoneToTurn() {
        Checks.part("6: NoSuchElementException: there is none at that end");
        WaterWorks x = onePipe(0);
        x.pipe(1, 0, 1);
        Checks.fails(Checks.NO_SUCH, () -> x.turn(0, 0, false));
        Checks.fails(Checks.NO_SUCH, () -> x.turn(0, 1, false));
        Checks.fails(Checks.NO_SUCH, () -> x.turn(0, 1, true));
        Checks.fails(Checks.NO_SUCH, () -> x.turn(1, 1, false));
        Checks.is(true, () -> x.turn(1, 0, false));
        Checks.is(true, () -> x.fed(0));
    }

    private static void theEndsToTurn() {
        Checks.part("6: IndexOutOfBoundsException: ends that are not 0 or 1");
        WaterWorks x = onePipe(3);
        x.pipe(0, 1, 3);
        for (int end : new int[] {-1, 2, 3, -2, 32, LOWEST, HIGHEST}) {
            Checks.fails(Checks.INDEX, () -> x.turn(0, end, false));
            Checks.fails(Checks.INDEX, () -> x.turn(1, end, true));
        }
        for (int pipe = 0; pipe < 2; pipe++) {
            int p = pipe;
            Checks.is(false, () -> x.turn(p, 0, true));
            Checks.is(false, () -> x.turn(p, 1, true));
        }
    }

    private static void aStuckValveStaysAsItIs() {
        Checks.part("6: IllegalStateException: it is stuck");
        for (boolean open : new boolean[] {true, false}) {
            WaterWorks x = onePipe(3);
            x.turn(0, 1, open);
            x.stick(0, 1, true);
            Checks.fails(Checks.STATE, () -> x.turn(0, 1, true));
            Checks.fails(Checks.STATE, () -> x.turn(0, 1, false));
            Checks.is(open, () -> x.fed(0));
            Checks.is(true, () -> x.turn(0, 0, false));
            Checks.is(true, () -> x.turn(0, 0, true));
            x.stick(0, 1, false);
            Checks.is(false, () -> x.turn(0, 1, open));
            Checks.is(true, () -> x.turn(0, 1, !open));
        }
    }

    private static void whetherItWasStuckOtherwise() {
        Checks.part("7: answers whether it was otherwise");
        for (int end = 0; end < 2; end++) {
            WaterWorks x = onePipe(3);
            int e = end;
            Checks.is(false, () -> x.stick(0, e, false));
            Checks.is(true, () -> x.stick(0, e, true));
            Checks.is(false, () -> x.stick(0, e, true));
            Checks.fails(Checks.STATE, () -> x.turn(0, e, false));
            Checks.is(false, () -> x.stick(0, 1 - e, false));
            Checks.is(true, () -> x.stick(0, e, false));
            Checks.is(false, () -> x.stick(0, e, false));
            Checks.is(true, () -> x.turn(0, e, false));
        }
    }

    private static void thereIsNoneToStick() {
        Checks.part("7: NoSuchElementException: there is none at that end");
        WaterWorks x = onePipe(0);
        x.pipe(1, 0, 1);
        Checks.fails(Checks.NO_SUCH, () -> x.stick(0, 0, true));
        Checks.fails(Checks.NO_SUCH, () -> x.stick(0, 1, true));
        Checks.fails(Checks.NO_SUCH, () -> x.stick(0, 0, false));
        Checks.fails(Checks.NO_SUCH, () -> x.stick(1, 1, true));
        Checks.is(true, () -> x.stick(1, 0, true));
    }

    private static void theEndsToStick() {
        Checks.part("7: IndexOutOfBoundsException: ends that are not 0 or 1");
        WaterWorks x = onePipe(3);
        x.pipe(0, 1, 3);
        for (int end : new int[] {-1, 2, 3, -2, 32, LOWEST, HIGHEST}) {
            Checks.fails(Checks.INDEX, () -> x.stick(0, end, true));
            Checks.fails(Checks.INDEX, () -> x.stick(1, end, false));
        }
        for (int pipe = 0; pipe < 2; pipe++) {
            int p = pipe;
            Checks.is(false, () -> x.stick(p, 0, false));
            Checks.is(false, () -> x.stick(p, 1, false));
        }
    }

    private static void connectedIfNoValveIsThereOrItIsOpen() {
        Checks.part("8: the middle is connected with the node at an end, if no valve is there, or it is open");
        for (int valves = 0; valves < 4; valves++) {
            for (int shut = 0; shut < 4; shut++) {
                WaterWorks x = onePipe(valves);
                int ends = valves & shut;
                if ((ends & 1) != 0) {
                    x.turn(0, 0, false);
                }
                if ((ends & 2) != 0) {
                    x.turn(0, 1, false);
                }
                Checks.is(ends == 0, () -> x.fed(0));
            }
        }
    }

    private static void stuckOrNotIsNoMatterToTheWater() {
        Checks.part("8: a valve may be stuck, then it stays as it is");
        WaterWorks x = onePipe(3);
        x.stick(0, 0, true);
        x.stick(0, 1, true);
        Checks.is(true, () -> x.fed(0));
        x.stick(0, 1, false);
        x.turn(0, 1, false);
        x.stick(0, 1, true);
        Checks.is(false, () -> x.fed(0));
        x.stick(0, 1, false);
        Checks.is(false, () -> x.fed(0));
    }

    /** All nodes in a row, the water with the order of the pipes and against it, and each valve matters. */
    private static void fedFromAfar() {
        Checks.part("8: connected with a source, by nodes and middles");
        for (int source = 0; source < 12; source += 11) {
            WaterWorks x = NetTest.line(12, 3);
            x.source(0, false);
            x.source(source, true);
            x.customer(11 - source);
            Checks.is(true, () -> x.fed(0));
            for (int i = 0; i < 11; i++) {
                int pipe = i;
                x.turn(pipe, pipe % 2, false);
                Checks.is(false, () -> x.fed(0));
                x.turn(pipe, pipe % 2, true);
            }
            Checks.is(true, () -> x.fed(0));
        }
    }

    private static void fedAroundARing() {
        Checks.part("8: connected with a source, by nodes and middles, around a ring");
        WaterWorks x = NetTest.line(12, 1);
        x.pipe(11, 0, 2);
        x.customer(11);
        x.customer(1);
        Checks.is("11", () -> NetTest.allFed(x, 2));
        x.turn(0, 0, false);
        Checks.is("11", () -> NetTest.allFed(x, 2));
        x.turn(11, 1, false);
        Checks.is("00", () -> NetTest.allFed(x, 2));
        x.turn(0, 0, true);
        Checks.is("11", () -> NetTest.allFed(x, 2));
    }

    private static void fedByOnePipeOfSixteen() {
        Checks.part("8: fed by pipe 15 alone");
        WaterWorks x = withNodes(12);
        for (int i = 0; i < 16; i++) {
            x.pipe(11, 10, 3);
            if (i < 15) {
                x.turn(i, i % 2, false);
            }
        }
        x.source(11, true);
        x.customer(10);
        Checks.is(true, () -> x.fed(0));
        Checks.is(true, () -> x.turn(15, 1, false));
        Checks.is(false, () -> x.fed(0));
    }
}
