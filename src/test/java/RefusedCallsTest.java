import java.util.ArrayList;
import java.util.List;

/**
 * The sentences of the document about refused calls: what is tested first, the exception that is named
 * first when several would do, and that a call that throws, or answers false, changes nothing.
 */
final class RefusedCallsTest {
    private static final int LOWEST = Integer.MIN_VALUE;
    private static final int HIGHEST = Integer.MAX_VALUE;

    public static void main(String[] args) {
        nodesThatThereAreNot();
        pipesThatThereAreNot();
        customersThatThereAreNot();
        whatThereIsIsTestedFirst();
        endsAreTestedFirst();
        pipeNamesFirst();
        turnAndStickNameFirst();
        installNamesFirst();
        readNamesFirst();
        amendNamesFirst();
        usedNamesFirst();
        tariffNamesFirst();
        billNamesFirst();
        payNamesFirst();
        refusedInAFullWorksChangesNothing();
        refusedInASmallWorksChangesNothing();
        answeringFalseChangesNothing();
        Checks.end();
    }

    /** Numbers that nothing has, when there are so many; shifts by 32 wrap around, so these are among them. */
    private static int[] notThere(int count) {
        return new int[] {-1, count, count + 1, 12, 16, 31, 32, 64, -32, 1 << 30, 1 << 31, LOWEST, HIGHEST};
    }

    private static void nodesThatThereAreNot() {
        Checks.part("IndexOutOfBoundsException: nodes that there are not");
        for (int count = 0; count <= 12; count += 3) {
            WaterWorks x = NetEdgesTest.withNodes(count);
            for (int i : notThere(count)) {
                Checks.fails(Checks.INDEX, () -> x.pipe(i, 0, 3));
                Checks.fails(Checks.INDEX, () -> x.pipe(0, i, 3));
                Checks.fails(Checks.INDEX, () -> x.pipe(i, i, 3));
                Checks.fails(Checks.INDEX, () -> x.source(i, true));
                Checks.fails(Checks.INDEX, () -> x.source(i, false));
                Checks.fails(Checks.INDEX, () -> x.customer(i));
            }
        }
    }

    private static void pipesThatThereAreNot() {
        Checks.part("IndexOutOfBoundsException: pipes that there are not");
        for (int count = 0; count <= 16; count += 4) {
            WaterWorks x = NetEdgesTest.withNodes(12);
            for (int i = 0; i < count; i++) {
                x.pipe(i % 12, (i + 1) % 12, 3);
            }
            for (int i : notThere(Math.max(count, 16))) {
                if (i < 0 || i >= count) {
                    Checks.fails(Checks.INDEX, () -> x.turn(i, 0, false));
                    Checks.fails(Checks.INDEX, () -> x.stick(i, 1, true));
                    Checks.fails(Checks.INDEX, () -> x.shutOff(i));
                    Checks.fails(Checks.INDEX, () -> x.plan(i, 0));
                    Checks.fails(Checks.INDEX, () -> x.dry(i));
                    Checks.fails(Checks.INDEX, () -> x.carryOut(i));
                }
            }
            int next = count;
            Checks.fails(Checks.INDEX, () -> x.shutOff(next));
            Checks.fails(Checks.INDEX, () -> x.plan(next, 0));
            Checks.fails(Checks.INDEX, () -> x.dry(next));
            Checks.fails(Checks.INDEX, () -> x.carryOut(next));
            Checks.fails(Checks.INDEX, () -> x.turn(next, 0, false));
            Checks.fails(Checks.INDEX, () -> x.stick(next, 0, true));
        }
    }

    private static void customersThatThereAreNot() {
        Checks.part("IndexOutOfBoundsException: customers that there are not");
        for (int count = 0; count <= 10; count += 5) {
            WaterWorks x = MeterTest.withCustomers(count);
            for (int i : notThere(count)) {
                Checks.fails(Checks.INDEX, () -> x.fed(i));
                Checks.fails(Checks.INDEX, () -> x.install(i, 1, 0));
                Checks.fails(Checks.INDEX, () -> x.read(i, 0));
                Checks.fails(Checks.INDEX, () -> x.amend(i, 0, 0));
                Checks.fails(Checks.INDEX, () -> x.used(i, 0, 0));
                Checks.fails(Checks.INDEX, () -> x.bill(i, 1));
                Checks.fails(Checks.INDEX, () -> x.correct(i));
                Checks.fails(Checks.INDEX, () -> x.pay(i, 0));
            }
        }
    }

    private static void whatThereIsIsTestedFirst() {
        Checks.part("IndexOutOfBoundsException, everywhere, tested first");
        WaterWorks x = full();
        for (int i : notThere(16)) {
            Checks.fails(Checks.INDEX, () -> x.pipe(i, i, 4));
            Checks.fails(Checks.INDEX, () -> x.pipe(0, i, -1));
            Checks.fails(Checks.INDEX, () -> x.customer(i));
            Checks.fails(Checks.INDEX, () -> x.turn(i, 2, true));
            Checks.fails(Checks.INDEX, () -> x.install(i, 5, -1));
            Checks.fails(Checks.INDEX, () -> x.read(i, -1));
            Checks.fails(Checks.INDEX, () -> x.amend(i, -1, -1));
            Checks.fails(Checks.INDEX, () -> x.used(i, 1, 0));
            Checks.fails(Checks.INDEX, () -> x.bill(i, -1));
            Checks.fails(Checks.INDEX, () -> x.pay(i, -1));
        }
    }

    private static void endsAreTestedFirst() {
        Checks.part("IndexOutOfBoundsException: ends that are not 0 or 1, tested first");
        WaterWorks x = NetEdgesTest.withNodes(2);
        x.pipe(0, 1, 0);
        x.pipe(0, 1, 3);
        x.stick(1, 0, true);
        x.stick(1, 1, true);
        for (int end : new int[] {-1, 2, LOWEST, HIGHEST}) {
            Checks.fails(Checks.INDEX, () -> x.turn(0, end, true));
            Checks.fails(Checks.INDEX, () -> x.stick(0, end, true));
            Checks.fails(Checks.INDEX, () -> x.turn(1, end, true));
            Checks.fails(Checks.INDEX, () -> x.stick(1, end, false));
        }
    }

    private static void pipeNamesFirst() {
        Checks.part("3: the one named first when several would do");
        WaterWorks x = NetEdgesTest.withNodes(12);
        for (int i = 0; i < 16; i++) {
            x.pipe(0, 1, 0);
        }
        Checks.fails(Checks.INDEX, () -> x.pipe(12, 12, 0));
        Checks.fails(Checks.INDEX, () -> x.pipe(0, 12, 4));
        Checks.fails(Checks.INDEX, () -> x.pipe(12, 0, 3));
        Checks.fails(Checks.ARGUMENT, () -> x.pipe(0, 0, 3));
        Checks.fails(Checks.ARGUMENT, () -> x.pipe(0, 1, 4));
        Checks.fails(Checks.ARGUMENT, () -> x.pipe(0, 1, -1));
        Checks.fails(Checks.STATE, () -> x.pipe(0, 1, 3));
    }

    /** A valve that there is not can't be stuck, so NoSuchElementException never meets IllegalStateException. */
    private static void turnAndStickNameFirst() {
        Checks.part("6 and 7: the one named first when several would do");
        WaterWorks x = NetEdgesTest.withNodes(2);
        x.pipe(0, 1, 1);
        x.stick(0, 0, true);
        Checks.fails(Checks.INDEX, () -> x.turn(1, 1, true));
        Checks.fails(Checks.INDEX, () -> x.turn(0, 2, true));
        Checks.fails(Checks.NO_SUCH, () -> x.turn(0, 1, true));
        Checks.fails(Checks.STATE, () -> x.turn(0, 0, true));
        Checks.fails(Checks.INDEX, () -> x.stick(1, 1, true));
        Checks.fails(Checks.NO_SUCH, () -> x.stick(0, 1, true));
    }

    private static void installNamesFirst() {
        Checks.part("14: the one named first when several would do");
        WaterWorks x = MeterTest.withCustomers(1);
        x.install(0, 1, 0);
        Checks.fails(Checks.INDEX, () -> x.install(1, 0, 0));
        Checks.fails(Checks.ARGUMENT, () -> x.install(0, 0, 0));
        Checks.fails(Checks.ARGUMENT, () -> x.install(0, 5, 0));
        Checks.fails(Checks.ARGUMENT, () -> x.install(0, 1, 10));
        Checks.fails(Checks.ARGUMENT, () -> x.install(0, 4, -1));
        Checks.fails(Checks.STATE, () -> x.install(0, 1, 9));
        for (int i = 1; i < 24; i++) {
            x.pass(1);
            x.read(0, 0);
        }
        x.pass(1);
        Checks.fails(Checks.INDEX, () -> x.install(1, 1, 0));
        Checks.fails(Checks.ARGUMENT, () -> x.install(0, 0, 0));
        Checks.fails(Checks.ARGUMENT, () -> x.install(0, 5, 0));
        Checks.fails(Checks.ARGUMENT, () -> x.install(0, 2, 100));
        Checks.fails(Checks.ARGUMENT, () -> x.install(0, 2, -1));
        Checks.fails(Checks.STATE, () -> x.install(0, 2, 99));
    }

    /** Here IllegalStateException is named before IllegalArgumentException. */
    private static void readNamesFirst() {
        Checks.part("15: the one named first when several would do");
        WaterWorks x = MeterTest.withCustomers(1);
        Checks.fails(Checks.INDEX, () -> x.read(1, -1));
        Checks.fails(Checks.STATE, () -> x.read(0, -1));
        Checks.fails(Checks.STATE, () -> x.read(0, HIGHEST));
        x.install(0, 1, 0);
        Checks.fails(Checks.STATE, () -> x.read(0, -1));
        Checks.fails(Checks.STATE, () -> x.read(0, 10));
        for (int i = 1; i < 24; i++) {
            x.pass(1);
            Checks.fails(Checks.ARGUMENT, () -> x.read(0, 10));
            x.read(0, 9);
            Checks.fails(Checks.STATE, () -> x.read(0, 10));
        }
        x.pass(1);
        Checks.fails(Checks.STATE, () -> x.read(0, 10));
        Checks.fails(Checks.STATE, () -> x.read(0, -1));
        Checks.fails(Checks.INDEX, () -> x.read(-1, 10));
    }

    private static void amendNamesFirst() {
        Checks.part("16: the one named first when several would do");
        WaterWorks x = MeterTest.withCustomers(1);
        Checks.fails(Checks.INDEX, () -> x.amend(1, 0, -1));
        Checks.fails(Checks.NO_SUCH, () -> x.amend(0, 0, -1));
        x.install(0, 1, 0);
        Checks.fails(Checks.INDEX, () -> x.amend(1, 1, 10));
        Checks.fails(Checks.NO_SUCH, () -> x.amend(0, 1, 10));
        Checks.fails(Checks.NO_SUCH, () -> x.amend(0, -1, -1));
        Checks.fails(Checks.ARGUMENT, () -> x.amend(0, 0, 10));
    }

    private static void usedNamesFirst() {
        Checks.part("17: the one named first when several would do");
        WaterWorks x = MeterTest.withCustomers(1);
        Checks.fails(Checks.INDEX, () -> x.used(1, 1, 0));
        Checks.fails(Checks.ARGUMENT, () -> x.used(0, 1, 0));
        Checks.fails(Checks.NO_SUCH, () -> x.used(0, 0, 0));
        x.install(0, 1, 0);
        Checks.fails(Checks.ARGUMENT, () -> x.used(0, 1, 0));
        Checks.fails(Checks.ARGUMENT, () -> x.used(0, 0, -1));
        Checks.fails(Checks.ARGUMENT, () -> x.used(0, -1, -2));
        Checks.fails(Checks.NO_SUCH, () -> x.used(0, -1, 0));
    }

    private static void tariffNamesFirst() {
        Checks.part("18: the one named first when several would do");
        WaterWorks x = new WaterWorks();
        for (int i = 0; i < 8; i++) {
            x.tariff(i, 0);
        }
        Checks.fails(Checks.ARGUMENT, () -> x.tariff(401, 0));
        Checks.fails(Checks.ARGUMENT, () -> x.tariff(-1, 0));
        Checks.fails(Checks.ARGUMENT, () -> x.tariff(8, -1));
        Checks.fails(Checks.ARGUMENT, () -> x.tariff(8, 1L << 50));
        Checks.fails(Checks.ARGUMENT, () -> x.tariff(8, 1001L << 40));
        Checks.fails(Checks.STATE, () -> x.tariff(8, 1000L << 40));
    }

    private static void billNamesFirst() {
        Checks.part("19: the one named first when several would do");
        WaterWorks x = MeterTest.withCustomers(1);
        x.install(0, 1, 0);
        x.pass(20);
        x.read(0, 0);
        // Without a tariff no price is known.
        Checks.fails(Checks.INDEX, () -> x.bill(1, 0));
        Checks.fails(Checks.ARGUMENT, () -> x.bill(0, 0));
        Checks.fails(Checks.NO_SUCH, () -> x.bill(0, 1));
        x.tariff(0, 0);
        for (int i = 1; i <= 6; i++) {
            x.bill(0, i);
        }
        Checks.fails(Checks.INDEX, () -> x.bill(-1, 6));
        Checks.fails(Checks.ARGUMENT, () -> x.bill(0, 6));
        Checks.fails(Checks.ARGUMENT, () -> x.bill(0, -1));
        Checks.fails(Checks.STATE, () -> x.bill(0, 7));
        Checks.fails(Checks.STATE, () -> x.bill(0, 21));
        Checks.fails(Checks.STATE, () -> x.bill(0, HIGHEST));
    }

    private static void payNamesFirst() {
        Checks.part("21: the one named first when several would do");
        WaterWorks x = MeterTest.withCustomers(1);
        Checks.fails(Checks.INDEX, () -> x.pay(1, -1));
        Checks.fails(Checks.INDEX, () -> x.pay(-1, LOWEST));
        Checks.fails(Checks.ARGUMENT, () -> x.pay(0, -1));
    }

    /** All is entered that can be; customer 0 has 24 readings and 6 bills, day 400 is today. */
    private static WaterWorks full() {
        WaterWorks x = NetTest.line(12, 3);
        for (int i = 0; i < 5; i++) {
            x.pipe(2 * i, 2 * i + 2, i % 4);
        }
        for (int i = 0; i < 10; i++) {
            x.customer(i + 1);
        }
        for (int i = 0; i < 8; i++) {
            x.tariff(i, BillTest.numbers(i, 2, 3, 4, 100 * i));
        }
        x.install(0, 2, 50);
        for (int i = 1; i < 24; i++) {
            x.pass(i == 23 ? 378 : 1);
            x.read(0, 7 * i % 100);
        }
        for (int i = 1; i <= 6; i++) {
            x.bill(0, 3 * i);
        }
        x.install(1, 4, 9999);
        x.stick(3, 0, true);
        x.turn(5, 1, false);
        x.stick(5, 1, true);
        return x;
    }

    /** A little of all is entered: no more than what it takes to ask each question. */
    private static WaterWorks small() {
        WaterWorks x = NetTest.line(3, 3);
        x.pipe(1, 2, 1);
        x.customer(1);
        x.customer(2);
        x.tariff(0, BillTest.numbers(3, 2, 3, 4, 500));
        x.install(0, 2, 50);
        x.install(1, 3, 500);
        x.pass(10);
        x.read(0, 40);
        x.bill(0, 7);
        x.pay(0, 5);
        x.stick(1, 0, true);
        return x;
    }

    private static void refusedInAFullWorksChangesNothing() {
        Checks.part("a call that throws changes nothing: all is full");
        WaterWorks x = full();
        WaterWorks y = full();
        Checks.fails(Checks.STATE, () -> x.node());
        Checks.fails(Checks.STATE, () -> x.pipe(0, 11, 3));
        Checks.fails(Checks.ARGUMENT, () -> x.pipe(11, 11, 3));
        Checks.fails(Checks.STATE, () -> x.customer(11));
        Checks.fails(Checks.ARGUMENT, () -> x.pass(1));
        Checks.fails(Checks.STATE, () -> x.install(0, 2, 99));
        Checks.fails(Checks.ARGUMENT, () -> x.install(0, 5, 99));
        Checks.fails(Checks.STATE, () -> x.install(1, 2, 99));
        Checks.fails(Checks.STATE, () -> x.read(0, 99));
        Checks.fails(Checks.STATE, () -> x.read(1, 99));
        Checks.fails(Checks.STATE, () -> x.read(2, 99));
        Checks.fails(Checks.NO_SUCH, () -> x.amend(0, 24, 99));
        Checks.fails(Checks.ARGUMENT, () -> x.amend(0, 23, 100));
        Checks.fails(Checks.STATE, () -> x.tariff(8, 1));
        Checks.fails(Checks.ARGUMENT, () -> x.tariff(7, -1));
        Checks.fails(Checks.ARGUMENT, () -> x.tariff(0, 1001L << 40));
        Checks.fails(Checks.STATE, () -> x.bill(0, 19));
        Checks.fails(Checks.ARGUMENT, () -> x.bill(0, 18));
        Checks.fails(Checks.NO_SUCH, () -> x.bill(2, 18));
        Checks.fails(Checks.ARGUMENT, () -> x.pay(0, -1));
        turnInVain(x);
        Checks.is(seen(y), () -> seen(x));
        Checks.is(end(y), () -> end(x));
    }

    private static void turnInVain(WaterWorks x) {
        Checks.fails(Checks.STATE, () -> x.turn(3, 0, false));
        Checks.fails(Checks.STATE, () -> x.turn(5, 1, true));
        Checks.fails(Checks.NO_SUCH, () -> x.turn(11, 0, false));
        Checks.fails(Checks.NO_SUCH, () -> x.stick(11, 1, true));
        Checks.fails(Checks.INDEX, () -> x.turn(0, 2, false));
        Checks.fails(Checks.INDEX, () -> x.stick(0, -1, true));
        Checks.fails(Checks.INDEX, () -> x.carryOut(16));
    }

    private static void refusedInASmallWorksChangesNothing() {
        Checks.part("a call that throws changes nothing: there is room");
        WaterWorks x = small();
        WaterWorks y = small();
        Checks.fails(Checks.ARGUMENT, () -> x.pipe(2, 2, 0));
        Checks.fails(Checks.ARGUMENT, () -> x.pipe(0, 2, 4));
        Checks.fails(Checks.INDEX, () -> x.pipe(0, 3, 0));
        Checks.fails(Checks.INDEX, () -> x.source(3, true));
        Checks.fails(Checks.INDEX, () -> x.customer(3));
        Checks.fails(Checks.STATE, () -> x.turn(1, 0, false));
        Checks.fails(Checks.NO_SUCH, () -> x.turn(2, 1, false));
        Checks.fails(Checks.NO_SUCH, () -> x.stick(2, 1, true));
        Checks.fails(Checks.ARGUMENT, () -> x.pass(391));
        Checks.fails(Checks.ARGUMENT, () -> x.pass(0));
        Checks.fails(Checks.ARGUMENT, () -> x.pass(-5));
        Checks.fails(Checks.ARGUMENT, () -> x.install(1, 2, 100));
        Checks.fails(Checks.ARGUMENT, () -> x.install(1, 0, 0));
        Checks.fails(Checks.STATE, () -> x.read(0, 41));
        Checks.fails(Checks.ARGUMENT, () -> x.read(1, 1000));
        Checks.fails(Checks.NO_SUCH, () -> x.amend(0, 2, 41));
        Checks.fails(Checks.ARGUMENT, () -> x.amend(0, 1, 100));
        Checks.fails(Checks.ARGUMENT, () -> x.amend(0, 1, -1));
        Checks.fails(Checks.ARGUMENT, () -> x.used(0, 5, 4));
        Checks.fails(Checks.NO_SUCH, () -> x.used(0, 5, 11));
        Checks.fails(Checks.ARGUMENT, () -> x.tariff(401, 1));
        Checks.fails(Checks.ARGUMENT, () -> x.tariff(5, 1L << 50));
        Checks.fails(Checks.ARGUMENT, () -> x.tariff(0, 1001L << 40));
        Checks.fails(Checks.ARGUMENT, () -> x.bill(0, 7));
        Checks.fails(Checks.NO_SUCH, () -> x.bill(0, 11));
        Checks.fails(Checks.NO_SUCH, () -> x.bill(1, 10));
        Checks.fails(Checks.ARGUMENT, () -> x.pay(0, -1));
        Checks.is(seen(y), () -> seen(x));
        Checks.is(end(y), () -> end(x));
    }

    /** A plan of 0 valves and no plan at all too change nothing when they are carried out. */
    private static void answeringFalseChangesNothing() {
        Checks.part("a call that answers false changes nothing");
        WaterWorks x = small();
        WaterWorks y = small();
        Checks.is(false, () -> x.turn(0, 0, true));
        Checks.is(false, () -> x.turn(2, 0, true));
        Checks.is(false, () -> x.stick(1, 0, true));
        Checks.is(false, () -> x.stick(0, 1, false));
        Checks.is(true, () -> x.fed(0));
        Checks.is(seen(y), () -> seen(x));
        Checks.is(end(y), () -> end(x));
        WaterWorks v = small();
        WaterWorks w = small();
        v.turn(0, 0, false);
        w.turn(0, 0, false);
        Checks.is(false, () -> v.turn(0, 0, false));
        Checks.is(false, () -> v.fed(1));
        Checks.is(0, () -> v.carryOut(2));
        Checks.is(seen(w), () -> seen(v));
        Checks.is(end(w), () -> end(v));
    }

    /** What can be asked without changing anything, in some 200 calls. */
    private static String seen(WaterWorks x) {
        List<Object> seen = new ArrayList<>();
        for (int i = 0; i < 17; i++) {
            int pipe = i;
            seen.add(Checks.answerOf(() -> x.shutOff(pipe)));
            seen.add(Checks.answerOf(() -> x.plan(pipe, 0)));
            seen.add(Checks.answerOf(() -> x.plan(pipe, 1)));
            seen.add(Checks.answerOf(() -> x.dry(pipe)));
        }
        for (int i = 0; i < 11; i++) {
            int customer = i;
            seen.add(Checks.answerOf(() -> x.fed(customer)));
            seen.add(Checks.answerOf(() -> x.pay(customer, 0)));
        }
        for (int i = 0; i <= 24; i++) {
            int day = i;
            seen.add(Checks.answerOf(() -> x.used(0, 0, day)));
            seen.add(Checks.answerOf(() -> x.used(1, day, 400)));
        }
        return seen.toString();
    }

    /** What only changes show: which numbers come next, how valves stood, what is put right, what bills tell. */
    private static String end(WaterWorks x) {
        List<Object> seen = new ArrayList<>();
        seen.add(Checks.answerOf(() -> x.correct(0)));
        for (int i = 0; i < 2; i++) {
            int customer = i;
            seen.add(Checks.answerOf(() -> x.pass(1)));
            seen.add(Checks.answerOf(() -> x.amend(customer, 0, 150)));
            seen.add(Checks.answerOf(() -> x.read(customer, 7)));
            seen.add(Checks.answerOf(() -> x.install(customer, 1, 7)));
            seen.add(Checks.answerOf(() -> x.amend(customer, 1, 8)));
            seen.add(Checks.answerOf(() -> x.used(customer, 0, 11)));
            seen.add(Checks.answerOf(() -> x.bill(customer, 11)));
            seen.add(Checks.answerOf(() -> x.pay(customer, 1)));
        }
        seen.add(Checks.answerOf(() -> x.tariff(5, 1)));
        seen.add(Checks.answerOf(() -> x.correct(0)));
        for (int end = 0; end < 32; end++) {
            int e = end;
            seen.add(Checks.answerOf(() -> x.turn(e / 2, e % 2, true)));
            seen.add(Checks.answerOf(() -> x.stick(e / 2, e % 2, false)));
            seen.add(Checks.answerOf(() -> x.turn(e / 2, e % 2, true)));
        }
        for (int i = 0; i < 12; i++) {
            int node = i;
            seen.add(Checks.answerOf(() -> x.source(node, false)));
        }
        seen.add(Checks.answerOf(() -> x.node()));
        seen.add(Checks.answerOf(() -> x.pipe(0, 1, 0)));
        seen.add(Checks.answerOf(() -> x.customer(0)));
        seen.add(Checks.answerOf(() -> x.pass(1)));
        return seen.toString();
    }
}
