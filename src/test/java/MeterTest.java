/** Promises 13 to 17: days, meters, readings, and use. */
final class MeterTest {
    private static final int LOWEST = Integer.MIN_VALUE;
    private static final int HIGHEST = Integer.MAX_VALUE;

    public static void main(String[] args) {
        passing();
        installing();
        installingOnOneDay();
        fullOfMeters();
        reading();
        fullOfReadings();
        amending();
        amendingChangesUse();
        using();
        usingBetweenReadings();
        usingOverAnExchange();
        usingOverTwoReadingsOfADay();
        rollingOver();
        customersAreApart();
        Checks.end();
    }

    /** A works with some customers at one node. */
    static WaterWorks withCustomers(int customers) {
        WaterWorks x = new WaterWorks();
        x.node();
        for (int i = 0; i < customers; i++) {
            x.customer(0);
        }
        return x;
    }

    private static void passing() {
        Checks.part("promise 13");
        WaterWorks x = new WaterWorks();
        Checks.fails(Checks.ARGUMENT, () -> x.pass(0));
        Checks.fails(Checks.ARGUMENT, () -> x.pass(-1));
        Checks.fails(Checks.ARGUMENT, () -> x.pass(401));
        Checks.fails(Checks.ARGUMENT, () -> x.pass(LOWEST));
        Checks.fails(Checks.ARGUMENT, () -> x.pass(HIGHEST));
        Checks.is(1, () -> x.pass(1));
        Checks.fails(Checks.ARGUMENT, () -> x.pass(400));
        Checks.is(399, () -> x.pass(398));
        Checks.fails(Checks.ARGUMENT, () -> x.pass(2));
        Checks.fails(Checks.ARGUMENT, () -> x.pass(HIGHEST));
        Checks.is(400, () -> x.pass(1));
        Checks.fails(Checks.ARGUMENT, () -> x.pass(1));
        Checks.fails(Checks.ARGUMENT, () -> x.pass(0));
        Checks.is(400, () -> new WaterWorks().pass(400));
    }

    private static void installing() {
        Checks.part("promise 14");
        WaterWorks x = withCustomers(5);
        Checks.fails(Checks.INDEX, () -> x.install(5, 1, 0));
        Checks.fails(Checks.INDEX, () -> x.install(-1, 0, -1));
        Checks.fails(Checks.INDEX, () -> x.install(HIGHEST, 1, 0));
        Checks.fails(Checks.ARGUMENT, () -> x.install(0, 0, 0));
        Checks.fails(Checks.ARGUMENT, () -> x.install(0, 5, 0));
        Checks.fails(Checks.ARGUMENT, () -> x.install(0, -1, 0));
        Checks.fails(Checks.ARGUMENT, () -> x.install(0, HIGHEST, 0));
        Checks.fails(Checks.ARGUMENT, () -> x.install(0, LOWEST, 0));
        Checks.fails(Checks.ARGUMENT, () -> x.install(0, 1, -1));
        Checks.fails(Checks.ARGUMENT, () -> x.install(0, 4, LOWEST));
        int numbers = 1;
        for (int digits = 1; digits <= 4; digits++) {
            numbers *= 10;
            int d = digits;
            int n = numbers;
            Checks.fails(Checks.ARGUMENT, () -> x.install(d, d, n));
            Checks.is(1, () -> x.install(d, d, n - 1));
        }
        Checks.is(1, () -> x.install(0, 1, 0));
        Checks.is(0, () -> x.used(0, 0, 0));
    }

    private static void installingOnOneDay() {
        Checks.part("promise 14");
        WaterWorks x = withCustomers(1);
        Checks.is(1, () -> x.install(0, 2, 50));
        Checks.fails(Checks.STATE, () -> x.install(0, 2, 50));
        Checks.fails(Checks.ARGUMENT, () -> x.install(0, 2, 100));
        Checks.fails(Checks.ARGUMENT, () -> x.install(0, 0, 0));
        x.pass(4);
        Checks.is(2, () -> x.install(0, 1, 3));
        Checks.fails(Checks.STATE, () -> x.install(0, 3, 3));
        x.pass(1);
        Checks.is(3, () -> x.read(0, 5));
        Checks.is(4, () -> x.install(0, 3, 777));
        Checks.fails(Checks.STATE, () -> x.install(0, 3, 777));
        Checks.fails(Checks.STATE, () -> x.read(0, 778));
        Checks.is(2, () -> x.used(0, 0, 5));
    }

    private static void fullOfMeters() {
        Checks.part("promise 14");
        WaterWorks x = withCustomers(1);
        for (int i = 1; i <= 24; i++) {
            int due = i;
            Checks.is(due, () -> x.install(0, 1, 0));
            x.pass(1);
        }
        Checks.fails(Checks.STATE, () -> x.install(0, 1, 0));
        Checks.fails(Checks.ARGUMENT, () -> x.install(0, 1, 10));
        Checks.fails(Checks.ARGUMENT, () -> x.install(0, 5, 0));
        Checks.fails(Checks.STATE, () -> x.read(0, 0));
        Checks.is(0, () -> x.used(0, 0, 23));
        Checks.fails(Checks.NO_SUCH, () -> x.used(0, 0, 24));
    }

    private static void reading() {
        Checks.part("promise 15");
        WaterWorks x = withCustomers(1);
        Checks.fails(Checks.INDEX, () -> x.read(1, 0));
        Checks.fails(Checks.INDEX, () -> x.read(-1, -1));
        Checks.fails(Checks.STATE, () -> x.read(0, 0));
        Checks.fails(Checks.STATE, () -> x.read(0, -1));
        x.install(0, 3, 10);
        Checks.fails(Checks.STATE, () -> x.read(0, 20));
        Checks.fails(Checks.STATE, () -> x.read(0, 1000));
        x.pass(1);
        Checks.fails(Checks.ARGUMENT, () -> x.read(0, 1000));
        Checks.fails(Checks.ARGUMENT, () -> x.read(0, -1));
        Checks.fails(Checks.ARGUMENT, () -> x.read(0, LOWEST));
        Checks.fails(Checks.ARGUMENT, () -> x.read(0, HIGHEST));
        Checks.is(2, () -> x.read(0, 999));
        Checks.fails(Checks.STATE, () -> x.read(0, 999));
        x.pass(1);
        Checks.is(3, () -> x.read(0, 0));
        Checks.is(990, () -> x.used(0, 0, 2));
        x.install(0, 1, 0);
        x.pass(1);
        Checks.fails(Checks.ARGUMENT, () -> x.read(0, 10));
        Checks.is(5, () -> x.read(0, 9));
        Checks.is(999, () -> x.used(0, 0, 3));
    }

    private static void fullOfReadings() {
        Checks.part("promise 15");
        WaterWorks x = withCustomers(1);
        x.install(0, 2, 0);
        for (int i = 2; i <= 24; i++) {
            int due = i;
            x.pass(1);
            Checks.is(due, () -> x.read(0, due));
        }
        Checks.fails(Checks.STATE, () -> x.read(0, 50));
        x.pass(1);
        Checks.fails(Checks.STATE, () -> x.read(0, 50));
        Checks.fails(Checks.STATE, () -> x.read(0, 100));
        Checks.fails(Checks.STATE, () -> x.install(0, 2, 50));
        Checks.is(24, () -> x.amend(0, 23, 33));
        Checks.is(33, () -> x.used(0, 0, 23));
    }

    private static void amending() {
        Checks.part("promise 16");
        WaterWorks x = withCustomers(1);
        Checks.fails(Checks.INDEX, () -> x.amend(1, 0, 0));
        Checks.fails(Checks.INDEX, () -> x.amend(-1, -1, -1));
        Checks.fails(Checks.NO_SUCH, () -> x.amend(0, 0, 0));
        x.install(0, 2, 7);
        Checks.is(7, () -> x.amend(0, 0, 99));
        Checks.is(99, () -> x.amend(0, 0, 99));
        Checks.is(99, () -> x.amend(0, 0, 0));
        Checks.fails(Checks.NO_SUCH, () -> x.amend(0, 1, 0));
        Checks.fails(Checks.NO_SUCH, () -> x.amend(0, -1, 0));
        Checks.fails(Checks.NO_SUCH, () -> x.amend(0, 24, 100));
        Checks.fails(Checks.NO_SUCH, () -> x.amend(0, HIGHEST, -1));
        Checks.fails(Checks.NO_SUCH, () -> x.amend(0, LOWEST, -1));
        Checks.fails(Checks.ARGUMENT, () -> x.amend(0, 0, 100));
        Checks.fails(Checks.ARGUMENT, () -> x.amend(0, 0, -1));
        Checks.fails(Checks.ARGUMENT, () -> x.amend(0, 0, LOWEST));
        Checks.is(0, () -> x.amend(0, 0, 5));
    }

    private static void amendingChangesUse() {
        Checks.part("promise 16");
        WaterWorks x = withCustomers(1);
        x.install(0, 1, 2);
        x.pass(10);
        x.read(0, 6);
        x.install(0, 3, 500);
        x.pass(10);
        x.read(0, 600);
        Checks.is(104, () -> x.used(0, 0, 20));
        // What its own meter can show is the bound, not what the last one can.
        Checks.fails(Checks.ARGUMENT, () -> x.amend(0, 1, 10));
        Checks.is(500, () -> x.amend(0, 2, 999));
        Checks.is(605, () -> x.used(0, 0, 20));
        Checks.is(4, () -> x.used(0, 0, 10));
        Checks.is(6, () -> x.amend(0, 1, 1));
        Checks.is(9, () -> x.used(0, 0, 10));
        Checks.is(601, () -> x.used(0, 10, 20));
        Checks.is(2, () -> x.amend(0, 0, 1));
        Checks.is(0, () -> x.used(0, 0, 10));
        Checks.is(600, () -> x.amend(0, 3, 998));
        Checks.is(999, () -> x.used(0, 0, 20));
    }

    private static void using() {
        Checks.part("promise 17");
        WaterWorks x = withCustomers(1);
        Checks.fails(Checks.NO_SUCH, () -> x.used(0, 0, 0));
        Checks.fails(Checks.ARGUMENT, () -> x.used(0, 1, 0));
        Checks.fails(Checks.INDEX, () -> x.used(1, 1, 0));
        Checks.fails(Checks.INDEX, () -> x.used(-1, 0, 0));
        x.pass(3);
        x.install(0, 4, 1000);
        Checks.is(0, () -> x.used(0, 3, 3));
        x.pass(4);
        x.read(0, 1400);
        x.pass(5);
        Checks.is(400, () -> x.used(0, 3, 7));
        Checks.is(0, () -> x.used(0, 7, 7));
        Checks.is(100, () -> x.used(0, 4, 5));
        Checks.fails(Checks.NO_SUCH, () -> x.used(0, 2, 7));
        Checks.fails(Checks.NO_SUCH, () -> x.used(0, 3, 8));
        Checks.fails(Checks.NO_SUCH, () -> x.used(0, 2, 2));
        Checks.fails(Checks.NO_SUCH, () -> x.used(0, 12, 12));
        Checks.fails(Checks.NO_SUCH, () -> x.used(0, -1, 5));
        Checks.fails(Checks.NO_SUCH, () -> x.used(0, LOWEST, HIGHEST));
        Checks.fails(Checks.NO_SUCH, () -> x.used(0, 5, HIGHEST));
        Checks.fails(Checks.ARGUMENT, () -> x.used(0, 7, 3));
        Checks.fails(Checks.ARGUMENT, () -> x.used(0, HIGHEST, LOWEST));
        Checks.fails(Checks.ARGUMENT, () -> x.used(0, 5, 4));
    }

    /** Counts between readings are rounded down, each for itself. */
    private static void usingBetweenReadings() {
        Checks.part("promise 17");
        WaterWorks x = withCustomers(1);
        x.install(0, 3, 0);
        x.pass(7);
        x.read(0, 10);
        x.pass(3);
        x.read(0, 12);
        int[] due = {0, 1, 2, 4, 5, 7, 8, 10, 10, 11, 12};
        for (int i = 0; i < due.length; i++) {
            int day = i;
            Checks.is(due[day], () -> x.used(0, 0, day));
        }
        Checks.is(2, () -> x.used(0, 2, 3));
        Checks.is(1, () -> x.used(0, 1, 2));
        Checks.is(6, () -> x.used(0, 3, 8));
    }

    private static void usingOverAnExchange() {
        Checks.part("promise 17");
        WaterWorks x = withCustomers(1);
        x.install(0, 2, 90);
        x.pass(5);
        x.read(0, 10);
        x.pass(5);
        x.install(0, 4, 5000);
        x.pass(5);
        x.read(0, 4990);
        Checks.is(20, () -> x.used(0, 0, 5));
        Checks.is(0, () -> x.used(0, 5, 10));
        Checks.is(0, () -> x.used(0, 6, 8));
        Checks.is(9990, () -> x.used(0, 10, 15));
        Checks.is(1998, () -> x.used(0, 7, 11));
        Checks.is(10010, () -> x.used(0, 0, 15));
    }

    private static void usingOverTwoReadingsOfADay() {
        Checks.part("promise 17");
        WaterWorks x = withCustomers(1);
        x.install(0, 2, 0);
        x.pass(10);
        x.read(0, 50);
        x.install(0, 1, 5);
        x.pass(10);
        x.read(0, 4);
        Checks.is(50, () -> x.used(0, 0, 10));
        Checks.is(0, () -> x.used(0, 10, 10));
        Checks.is(9, () -> x.used(0, 10, 20));
        Checks.is(5, () -> x.used(0, 8, 9));
        Checks.is(5, () -> x.used(0, 9, 10));
        Checks.is(1, () -> x.used(0, 10, 12));
        Checks.is(59, () -> x.used(0, 0, 20));
    }

    private static void rollingOver() {
        Checks.part("promise 17");
        WaterWorks x = withCustomers(4);
        int numbers = 1;
        for (int i = 0; i < 4; i++) {
            numbers *= 10;
            x.install(i, i + 1, numbers - 1);
        }
        x.pass(1);
        for (int i = 0; i < 4; i++) {
            int customer = i;
            x.read(i, 0);
            Checks.is(1, () -> x.used(customer, 0, 1));
        }
        x.pass(1);
        numbers = 1;
        for (int i = 0; i < 4; i++) {
            int customer = i;
            numbers *= 10;
            int due = numbers;
            x.read(i, numbers - 1);
            Checks.is(due, () -> x.used(customer, 0, 2));
            x.amend(i, 1, numbers - 1);
            Checks.is(0, () -> x.used(customer, 0, 2));
        }
    }

    private static void customersAreApart() {
        Checks.part("promise 15");
        WaterWorks x = withCustomers(2);
        x.install(0, 2, 1);
        Checks.fails(Checks.STATE, () -> x.read(1, 1));
        Checks.is(1, () -> x.install(1, 3, 100));
        x.pass(2);
        Checks.is(2, () -> x.read(0, 3));
        Checks.is(2, () -> x.read(1, 300));
        Checks.is(2, () -> x.used(0, 0, 2));
        Checks.is(200, () -> x.used(1, 0, 2));
    }
}
