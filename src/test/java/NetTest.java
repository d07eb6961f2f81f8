/** Promises 1 to 8: a new object, nodes, pipes, sources, customers, valves, and who is fed. */
final class NetTest {
    private static final int LOWEST = Integer.MIN_VALUE;
    private static final int HIGHEST = Integer.MAX_VALUE;

    public static void main(String[] args) {
        newObject();
        objectsAreApart();
        nodes();
        pipes();
        fullPipes();
        sources();
        customers();
        turning();
        sticking();
        feeding();
        feedingThroughMiddles();
        feedingAlongAllPipes();
        Checks.end();
    }

    /** A line of nodes 0 .. n - 1, with pipe i from node i to node i + 1, a source at node 0. */
    static WaterWorks line(int nodes, int valves) {
        WaterWorks x = new WaterWorks();
        for (int i = 0; i < nodes; i++) {
            x.node();
        }
        for (int i = 0; i + 1 < nodes; i++) {
            x.pipe(i, i + 1, valves);
        }
        x.source(0, true);
        return x;
    }

    private static void newObject() {
        Checks.part("promise 1");
        WaterWorks x = new WaterWorks();
        Checks.fails(Checks.INDEX, () -> x.pipe(0, 1, 0));
        Checks.fails(Checks.INDEX, () -> x.source(0, true));
        Checks.fails(Checks.INDEX, () -> x.customer(0));
        Checks.fails(Checks.INDEX, () -> x.turn(0, 0, false));
        Checks.fails(Checks.INDEX, () -> x.stick(0, 0, true));
        Checks.fails(Checks.INDEX, () -> x.fed(0));
        Checks.fails(Checks.INDEX, () -> x.shutOff(0));
        Checks.fails(Checks.INDEX, () -> x.plan(0, 0));
        Checks.fails(Checks.INDEX, () -> x.dry(0));
        Checks.fails(Checks.INDEX, () -> x.carryOut(0));
        Checks.fails(Checks.INDEX, () -> x.install(0, 1, 0));
        Checks.fails(Checks.INDEX, () -> x.read(0, 0));
        Checks.fails(Checks.INDEX, () -> x.amend(0, 0, 0));
        Checks.fails(Checks.INDEX, () -> x.used(0, 0, 0));
        Checks.fails(Checks.INDEX, () -> x.bill(0, 1));
        Checks.fails(Checks.INDEX, () -> x.correct(0));
        Checks.fails(Checks.INDEX, () -> x.pay(0, 0));
        Checks.is(1, () -> x.pass(1));
        Checks.is(1, () -> x.tariff(0, 0));
        Checks.is(0, () -> x.node());
    }

    private static void objectsAreApart() {
        Checks.part("promise 1");
        WaterWorks x = line(3, 3);
        x.customer(2);
        x.pass(7);
        x.tariff(0, 0);
        WaterWorks y = new WaterWorks();
        Checks.is(0, () -> y.node());
        Checks.is(1, () -> y.node());
        Checks.is(0, () -> y.pipe(0, 1, 0));
        Checks.is(false, () -> y.source(0, false));
        Checks.is(0, () -> y.customer(1));
        Checks.is(false, () -> y.fed(0));
        Checks.is(1, () -> y.pass(1));
        Checks.is(1, () -> y.tariff(0, 0));
        Checks.is(8, () -> x.pass(1));
        Checks.is(true, () -> x.fed(0));
    }

    private static void nodes() {
        Checks.part("promise 2");
        WaterWorks x = new WaterWorks();
        for (int i = 0; i < 12; i++) {
            int due = i;
            Checks.is(due, () -> x.node());
        }
        Checks.fails(Checks.STATE, () -> x.node());
        Checks.fails(Checks.STATE, () -> x.node());
        Checks.is(0, () -> x.pipe(0, 11, 0));
        Checks.fails(Checks.INDEX, () -> x.pipe(0, 12, 0));
    }

    private static void pipes() {
        Checks.part("promise 3");
        WaterWorks x = new WaterWorks();
        x.node();
        x.node();
        Checks.fails(Checks.INDEX, () -> x.pipe(0, 2, 0));
        Checks.fails(Checks.INDEX, () -> x.pipe(2, 0, 0));
        Checks.fails(Checks.INDEX, () -> x.pipe(-1, 0, 0));
        Checks.fails(Checks.INDEX, () -> x.pipe(0, -1, 0));
        Checks.fails(Checks.INDEX, () -> x.pipe(HIGHEST, LOWEST, 0));
        Checks.fails(Checks.INDEX, () -> x.pipe(2, 2, 4));
        Checks.fails(Checks.INDEX, () -> x.pipe(-1, -1, 0));
        Checks.fails(Checks.ARGUMENT, () -> x.pipe(0, 0, 0));
        Checks.fails(Checks.ARGUMENT, () -> x.pipe(1, 1, 3));
        Checks.fails(Checks.ARGUMENT, () -> x.pipe(0, 1, 4));
        Checks.fails(Checks.ARGUMENT, () -> x.pipe(0, 1, -1));
        Checks.fails(Checks.ARGUMENT, () -> x.pipe(0, 1, HIGHEST));
        Checks.fails(Checks.ARGUMENT, () -> x.pipe(0, 1, LOWEST));
        for (int valves = 0; valves < 4; valves++) {
            int v = valves;
            Checks.is(v, () -> x.pipe(1, 0, v));
        }
        for (int pipe = 0; pipe < 4; pipe++) {
            for (int end = 0; end < 2; end++) {
                int p = pipe;
                int e = end;
                if ((pipe >> end & 1) == 1) {
                    Checks.is(false, () -> x.turn(p, e, true));
                } else {
                    Checks.fails(Checks.NO_SUCH, () -> x.turn(p, e, true));
                }
            }
        }
    }

    private static void fullPipes() {
        Checks.part("promise 3");
        WaterWorks x = new WaterWorks();
        x.node();
        x.node();
        for (int i = 0; i < 16; i++) {
            int due = i;
            Checks.is(due, () -> x.pipe(0, 1, 3));
        }
        Checks.fails(Checks.STATE, () -> x.pipe(0, 1, 3));
        Checks.fails(Checks.ARGUMENT, () -> x.pipe(0, 0, 3));
        Checks.fails(Checks.ARGUMENT, () -> x.pipe(0, 1, 4));
        Checks.fails(Checks.INDEX, () -> x.pipe(0, 2, 3));
        Checks.is(true, () -> x.turn(15, 1, false));
        Checks.fails(Checks.INDEX, () -> x.turn(16, 0, false));
    }

    private static void sources() {
        Checks.part("promise 4");
        WaterWorks x = new WaterWorks();
        x.node();
        x.node();
        x.customer(0);
        x.customer(1);
        Checks.is(false, () -> x.source(1, false));
        Checks.is(false, () -> x.fed(1));
        Checks.is(false, () -> x.source(1, true));
        Checks.is(true, () -> x.fed(1));
        Checks.is(false, () -> x.fed(0));
        Checks.is(true, () -> x.source(1, true));
        Checks.is(true, () -> x.fed(1));
        Checks.is(true, () -> x.source(1, false));
        Checks.is(false, () -> x.fed(1));
        Checks.is(false, () -> x.source(1, false));
        Checks.fails(Checks.INDEX, () -> x.source(2, true));
        Checks.fails(Checks.INDEX, () -> x.source(-1, true));
        Checks.fails(Checks.INDEX, () -> x.source(LOWEST, true));
        Checks.fails(Checks.INDEX, () -> x.source(32, true));
        Checks.is(false, () -> x.fed(0));
    }

    private static void customers() {
        Checks.part("promise 5");
        WaterWorks x = new WaterWorks();
        x.node();
        Checks.fails(Checks.INDEX, () -> x.customer(1));
        Checks.fails(Checks.INDEX, () -> x.customer(-1));
        x.node();
        for (int i = 0; i < 10; i++) {
            int due = i;
            Checks.is(due, () -> x.customer(due % 2));
        }
        Checks.fails(Checks.STATE, () -> x.customer(0));
        Checks.fails(Checks.INDEX, () -> x.customer(2));
        Checks.fails(Checks.INDEX, () -> x.customer(HIGHEST));
        x.source(1, true);
        for (int i = 0; i < 10; i++) {
            int customer = i;
            Checks.is(i % 2 == 1, () -> x.fed(customer));
        }
    }

    private static void turning() {
        Checks.part("promise 6");
        WaterWorks x = line(3, 1);
        x.customer(2);
        Checks.is(false, () -> x.turn(1, 0, true));
        Checks.is(true, () -> x.turn(1, 0, false));
        Checks.is(false, () -> x.fed(0));
        Checks.is(false, () -> x.turn(1, 0, false));
        Checks.is(true, () -> x.turn(1, 0, true));
        Checks.is(true, () -> x.fed(0));
        Checks.fails(Checks.NO_SUCH, () -> x.turn(1, 1, true));
        Checks.fails(Checks.INDEX, () -> x.turn(1, 2, true));
        Checks.fails(Checks.INDEX, () -> x.turn(1, -1, true));
        Checks.fails(Checks.INDEX, () -> x.turn(0, HIGHEST, true));
        Checks.fails(Checks.INDEX, () -> x.turn(2, 0, true));
        Checks.fails(Checks.INDEX, () -> x.turn(-1, 0, true));
        Checks.fails(Checks.INDEX, () -> x.turn(LOWEST, LOWEST, true));
        Checks.fails(Checks.INDEX, () -> x.turn(1 << 30, 0, false));
        x.stick(1, 0, true);
        Checks.fails(Checks.STATE, () -> x.turn(1, 0, false));
        Checks.fails(Checks.STATE, () -> x.turn(1, 0, true));
        Checks.fails(Checks.NO_SUCH, () -> x.turn(1, 1, false));
        Checks.is(true, () -> x.fed(0));
        Checks.is(true, () -> x.turn(0, 0, false));
        Checks.is(false, () -> x.fed(0));
    }

    private static void sticking() {
        Checks.part("promise 7");
        WaterWorks x = line(2, 2);
        x.customer(1);
        Checks.is(false, () -> x.stick(0, 1, false));
        Checks.is(true, () -> x.stick(0, 1, true));
        Checks.is(false, () -> x.stick(0, 1, true));
        Checks.is(true, () -> x.fed(0));
        Checks.is(true, () -> x.stick(0, 1, false));
        Checks.is(true, () -> x.turn(0, 1, false));
        Checks.is(true, () -> x.stick(0, 1, true));
        Checks.is(false, () -> x.fed(0));
        Checks.fails(Checks.STATE, () -> x.turn(0, 1, true));
        Checks.is(false, () -> x.fed(0));
        Checks.is(true, () -> x.stick(0, 1, false));
        Checks.is(true, () -> x.turn(0, 1, true));
        Checks.is(true, () -> x.fed(0));
        Checks.fails(Checks.NO_SUCH, () -> x.stick(0, 0, true));
        Checks.fails(Checks.NO_SUCH, () -> x.stick(0, 0, false));
        Checks.fails(Checks.INDEX, () -> x.stick(0, 2, true));
        Checks.fails(Checks.INDEX, () -> x.stick(0, -1, true));
        Checks.fails(Checks.INDEX, () -> x.stick(1, 0, true));
        Checks.fails(Checks.INDEX, () -> x.stick(-1, 1, true));
        Checks.is(1, () -> x.pipe(1, 0, 1));
        Checks.is(true, () -> x.stick(1, 0, true));
        Checks.is(true, () -> x.stick(0, 1, true));
    }

    private static void feeding() {
        Checks.part("promise 8");
        WaterWorks x = line(4, 3);
        for (int i = 0; i < 4; i++) {
            x.customer(i);
        }
        Checks.is("1111", () -> allFed(x, 4));
        x.turn(1, 0, false);
        Checks.is("1100", () -> allFed(x, 4));
        x.pipe(3, 1, 0);
        Checks.is("1111", () -> allFed(x, 4));
        x.turn(2, 1, false);
        Checks.is("1101", () -> allFed(x, 4));
        x.source(2, true);
        Checks.is("1111", () -> allFed(x, 4));
        x.source(0, false);
        Checks.is("0010", () -> allFed(x, 4));
        Checks.fails(Checks.INDEX, () -> x.fed(4));
        Checks.fails(Checks.INDEX, () -> x.fed(-1));
        Checks.fails(Checks.INDEX, () -> x.fed(10));
        Checks.fails(Checks.INDEX, () -> x.fed(HIGHEST));
    }

    private static void feedingThroughMiddles() {
        Checks.part("promise 8");
        WaterWorks x = new WaterWorks();
        x.node();
        x.node();
        x.node();
        x.customer(2);
        x.source(0, true);
        Checks.is(false, () -> x.fed(0));
        x.pipe(2, 0, 2);
        Checks.is(true, () -> x.fed(0));
        x.turn(0, 1, false);
        Checks.is(false, () -> x.fed(0));
        x.pipe(1, 2, 0);
        Checks.is(false, () -> x.fed(0));
        x.pipe(0, 1, 0);
        Checks.is(true, () -> x.fed(0));
    }

    /** Twelve nodes in a row whose pipes are entered against the way of the water. */
    private static void feedingAlongAllPipes() {
        Checks.part("promise 8");
        WaterWorks x = new WaterWorks();
        for (int i = 0; i < 12; i++) {
            x.node();
        }
        for (int i = 0; i < 11; i++) {
            x.pipe(i, i + 1, 1);
        }
        x.customer(0);
        x.customer(11);
        x.source(11, true);
        Checks.is("11", () -> allFed(x, 2));
        x.turn(0, 0, false);
        Checks.is("01", () -> allFed(x, 2));
    }

    static String allFed(WaterWorks x, int customers) {
        StringBuilder all = new StringBuilder();
        for (int i = 0; i < customers; i++) {
            all.append(x.fed(i) ? '1' : '0');
        }
        return all.toString();
    }
}
