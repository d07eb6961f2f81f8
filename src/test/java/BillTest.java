/** Promises 18 to 21: tariffs, bills, corrections and payments. */
final class BillTest {
    private static final int LOWEST = Integer.MIN_VALUE;
    private static final int HIGHEST = Integer.MAX_VALUE;

    public static void main(String[] args) {
        tariffs();
        wrongTariffs();
        fullTariffs();
        billing();
        billsFollowOneAnother();
        billsWithoutATariff();
        stepsOfUse();
        sewage();
        cutsWhereTariffsBegin();
        mostBills();
        dearestBill();
        correcting();
        correctingWithTariffs();
        correctingNothing();
        paying();
        customersAreApart();
        Checks.end();
    }

    static long numbers(int limit, int low, int high, int base, int sewage) {
        return limit | (long) low << 10 | (long) high << 20 | (long) base << 30 | (long) sewage << 40;
    }

    /** A customer that uses so many units in so many days, from day 0 on; today is their end. */
    static WaterWorks used(int units, int days) {
        WaterWorks x = MeterTest.withCustomers(1);
        x.install(0, 4, 9000);
        x.pass(days);
        x.read(0, (9000 + units) % 10000);
        return x;
    }

    private static void tariffs() {
        Checks.part("promise 18");
        WaterWorks x = new WaterWorks();
        Checks.is(1, () -> x.tariff(0, numbers(1, 2, 3, 4, 5)));
        Checks.is(1, () -> x.tariff(0, 0));
        Checks.is(2, () -> x.tariff(400, numbers(1023, 1023, 1023, 1023, 1000)));
        Checks.is(3, () -> x.tariff(200, 1));
        Checks.is(3, () -> x.tariff(200, 2));
        Checks.is(3, () -> x.tariff(400, 2));
        Checks.is(4, () -> x.tariff(201, 2));
    }

    private static void wrongTariffs() {
        Checks.part("promise 18");
        WaterWorks x = new WaterWorks();
        Checks.fails(Checks.ARGUMENT, () -> x.tariff(-1, 0));
        Checks.fails(Checks.ARGUMENT, () -> x.tariff(401, 0));
        Checks.fails(Checks.ARGUMENT, () -> x.tariff(LOWEST, 0));
        Checks.fails(Checks.ARGUMENT, () -> x.tariff(HIGHEST, 0));
        Checks.fails(Checks.ARGUMENT, () -> x.tariff(0, -1));
        Checks.fails(Checks.ARGUMENT, () -> x.tariff(0, Long.MIN_VALUE));
        Checks.fails(Checks.ARGUMENT, () -> x.tariff(0, Long.MAX_VALUE));
        Checks.fails(Checks.ARGUMENT, () -> x.tariff(0, 1L << 50));
        Checks.fails(Checks.ARGUMENT, () -> x.tariff(0, 1L << 62));
        Checks.fails(Checks.ARGUMENT, () -> x.tariff(0, numbers(0, 0, 0, 0, 1001)));
        Checks.fails(Checks.ARGUMENT, () -> x.tariff(0, numbers(0, 0, 0, 0, 1023)));
        Checks.is(1, () -> x.tariff(0, numbers(0, 0, 0, 0, 1000)));
    }

    private static void fullTariffs() {
        Checks.part("promise 18");
        WaterWorks x = used(80, 80);
        for (int i = 8; i > 0; i--) {
            int day = 10 * i;
            Checks.is(9 - i, () -> x.tariff(day, numbers(0, 0, 0, 1, 0)));
        }
        Checks.fails(Checks.STATE, () -> x.tariff(0, 0));
        Checks.fails(Checks.STATE, () -> x.tariff(5, 0));
        Checks.fails(Checks.STATE, () -> x.tariff(81, 0));
        Checks.fails(Checks.ARGUMENT, () -> x.tariff(401, 0));
        Checks.fails(Checks.ARGUMENT, () -> x.tariff(5, -1));
        Checks.is(8, () -> x.tariff(10, numbers(0, 0, 0, 2, 0)));
        Checks.is(8, () -> x.tariff(80, numbers(0, 0, 0, 2, 0)));
        // None holds on day 0, and the refused ones left nothing behind.
        Checks.fails(Checks.NO_SUCH, () -> x.bill(0, 80));
    }

    private static void billing() {
        Checks.part("promise 19");
        WaterWorks x = MeterTest.withCustomers(1);
        Checks.fails(Checks.INDEX, () -> x.bill(1, 5));
        Checks.fails(Checks.INDEX, () -> x.bill(-1, LOWEST));
        Checks.fails(Checks.NO_SUCH, () -> x.bill(0, 5));
        Checks.fails(Checks.NO_SUCH, () -> x.bill(0, 0));
        Checks.fails(Checks.NO_SUCH, () -> x.bill(0, LOWEST));
        x.pass(4);
        x.install(0, 2, 99);
        x.tariff(0, numbers(1023, 7, 100, 11, 0));
        Checks.fails(Checks.ARGUMENT, () -> x.bill(0, 4));
        Checks.fails(Checks.ARGUMENT, () -> x.bill(0, 3));
        Checks.fails(Checks.ARGUMENT, () -> x.bill(0, LOWEST));
        Checks.fails(Checks.NO_SUCH, () -> x.bill(0, 5));
        Checks.fails(Checks.NO_SUCH, () -> x.bill(0, HIGHEST));
        x.pass(3);
        Checks.fails(Checks.NO_SUCH, () -> x.bill(0, 7));
        x.read(0, 9);
        Checks.fails(Checks.NO_SUCH, () -> x.bill(0, 8));
        Checks.is(3 * 11 + 10 * 7, () -> x.bill(0, 7));
        Checks.is(103, () -> x.pay(0, 0));
    }

    private static void billsFollowOneAnother() {
        Checks.part("promise 19");
        WaterWorks x = used(100, 30);
        x.tariff(0, numbers(0, 0, 1, 1000, 0));
        Checks.is(10000 + 33, () -> x.bill(0, 10));
        Checks.fails(Checks.ARGUMENT, () -> x.bill(0, 10));
        Checks.fails(Checks.ARGUMENT, () -> x.bill(0, 9));
        Checks.is(1000 + 3, () -> x.bill(0, 11));
        Checks.fails(Checks.NO_SUCH, () -> x.bill(0, 31));
        Checks.is(19000 + 64, () -> x.bill(0, 30));
        Checks.fails(Checks.ARGUMENT, () -> x.bill(0, 30));
        Checks.is(30100, () -> x.pay(0, 0));
    }

    private static void billsWithoutATariff() {
        Checks.part("promise 19");
        WaterWorks x = used(100, 30);
        Checks.fails(Checks.NO_SUCH, () -> x.bill(0, 30));
        x.tariff(1, numbers(0, 1, 1, 1, 0));
        Checks.fails(Checks.NO_SUCH, () -> x.bill(0, 30));
        Checks.fails(Checks.ARGUMENT, () -> x.bill(0, 0));
        x.tariff(0, numbers(0, 0, 0, 1, 0));
        Checks.is(1, () -> x.bill(0, 1));
        Checks.is(2 + (10 - 3), () -> x.bill(0, 3));
        Checks.is(10, () -> x.pay(0, 0));
    }

    private static void stepsOfUse() {
        Checks.part("promise 19");
        int[] uses = {0, 19, 20, 21, 300};
        int[] due = {0, 190, 200, 300, 28200};
        for (int i = 0; i < uses.length; i++) {
            WaterWorks x = used(uses[i], 10);
            x.tariff(0, numbers(60, 10, 100, 0, 0));
            Checks.is(due[i], () -> x.bill(0, 10));
        }
        // 59 * 10 / 30 is 19 and 2 thirds, rounded down.
        WaterWorks y = used(20, 10);
        y.tariff(0, numbers(59, 10, 100, 0, 0));
        Checks.is(19 * 10 + 100, () -> y.bill(0, 10));
        // A limit of 0, and a high price below the low one.
        WaterWorks z = used(20, 30);
        z.tariff(0, numbers(0, 1000, 1, 0, 0));
        Checks.is(20, () -> z.bill(0, 30));
        WaterWorks w = used(20, 30);
        w.tariff(0, numbers(5, 1000, 1, 0, 0));
        Checks.is(5015, () -> w.bill(0, 30));
    }

    /** The sewage share is of the water alone, of both steps together, and rounded once. */
    private static void sewage() {
        Checks.part("promise 19");
        int[] shares = {0, 1, 24, 25, 26, 74, 75, 76, 500, 999, 1000};
        int[] more = {0, 0, 0, 1, 1, 1, 2, 2, 10, 20, 20};
        for (int i = 0; i < shares.length; i++) {
            WaterWorks x = used(20, 10);
            x.tariff(0, numbers(1023, 1, 1, 50, shares[i]));
            int due = 500 + 20 + more[i];
            Checks.is(due, () -> x.bill(0, 10));
        }
        WaterWorks y = used(10, 30);
        y.tariff(0, numbers(6, 1, 1, 0, 125));
        Checks.is(10 + 1, () -> y.bill(0, 30));
        WaterWorks z = used(4, 30);
        z.tariff(0, numbers(2, 1, 1, 0, 125));
        Checks.is(4 + 1, () -> z.bill(0, 30));
    }

    private static void cutsWhereTariffsBegin() {
        Checks.part("promise 19");
        WaterWorks x = used(40, 40);
        x.tariff(0, numbers(0, 0, 1, 0, 0));
        x.tariff(20, numbers(0, 0, 100, 0, 0));
        x.tariff(10, numbers(0, 0, 10, 1, 0));
        x.tariff(41, numbers(0, 0, 1000, 0, 0));
        Checks.is(5, () -> x.bill(0, 5));
        Checks.is(5 + 1 + 10, () -> x.bill(0, 11));
        Checks.is(9 * 11, () -> x.bill(0, 20));
        Checks.is(2000, () -> x.bill(0, 40));
        // Limits, steps and sewage are rounded for each part by itself, counts at the cuts too.
        WaterWorks y = used(7, 4);
        y.tariff(0, numbers(20, 1, 3, 0, 500));
        y.tariff(1, numbers(20, 1, 3, 0, 500));
        y.tariff(2, numbers(20, 1, 3, 0, 500));
        // Counts 0 1 3 5 7; parts of 1, 2 and 4 units over 1, 1 and 2 days; limits 0, 0 and 1.
        Checks.is(3 + 2 + 6 + 3 + (1 + 9) + 5, () -> y.bill(0, 4));
        WaterWorks z = used(10, 10);
        z.tariff(3, numbers(0, 0, 1, 0, 0));
        z.tariff(0, numbers(0, 0, 2, 0, 0));
        z.tariff(3, numbers(0, 0, 5, 0, 0));
        Checks.is(6 + 35, () -> z.bill(0, 10));
    }

    private static void mostBills() {
        Checks.part("promise 19");
        WaterWorks x = used(70, 7);
        x.tariff(0, numbers(0, 0, 0, 1, 0));
        for (int i = 1; i <= 6; i++) {
            int day = i;
            Checks.is(1, () -> x.bill(0, day));
        }
        Checks.fails(Checks.STATE, () -> x.bill(0, 7));
        Checks.fails(Checks.STATE, () -> x.bill(0, 8));
        Checks.fails(Checks.ARGUMENT, () -> x.bill(0, 6));
        Checks.is(6, () -> x.pay(0, 0));
        Checks.is(0, () -> x.correct(0));
    }

    private static void dearestBill() {
        Checks.part("promise 19");
        WaterWorks x = MeterTest.withCustomers(1);
        x.tariff(0, numbers(0, 1023, 1023, 1023, 1000));
        x.install(0, 4, 0);
        for (int i = 1; i < 24; i++) {
            x.pass(i == 23 ? 378 : 1);
            x.read(0, (10000 - i) % 10000);
        }
        long units = 23 * 9999;
        Checks.is(23 * 9999, () -> x.used(0, 0, 400));
        Checks.is(400 * 1023 + 2 * units * 1023, () -> x.bill(0, 400));
    }

    private static void correcting() {
        Checks.part("promise 20");
        WaterWorks x = used(100, 10);
        x.tariff(0, numbers(300, 2, 5, 3, 0));
        Checks.is(15 + 50 * 2, () -> x.bill(0, 5));
        Checks.is(15 + 50 * 2, () -> x.bill(0, 10));
        Checks.is(0, () -> x.correct(0));
        x.amend(0, 1, 200);
        Checks.is(230, () -> x.pay(0, 0));
        // 1200 units: 600 in each bill, of which 50 are cheap.
        Checks.is(2 * (15 + 100 + 550 * 5) - 230, () -> x.correct(0));
        Checks.is(5730, () -> x.pay(0, 0));
        Checks.is(0, () -> x.correct(0));
        x.amend(0, 1, 9010);
        Checks.is(2 * (15 + 10) - 5730, () -> x.correct(0));
        Checks.is(50, () -> x.pay(0, 0));
        x.pass(5);
        x.read(0, 9020);
        Checks.is(0, () -> x.correct(0));
        Checks.is(15 + 20, () -> x.bill(0, 15));
        Checks.is(85, () -> x.pay(0, 0));
        Checks.fails(Checks.INDEX, () -> x.correct(1));
        Checks.fails(Checks.INDEX, () -> x.correct(-1));
        Checks.fails(Checks.INDEX, () -> x.correct(HIGHEST));
    }

    private static void correctingWithTariffs() {
        Checks.part("promise 20");
        WaterWorks x = used(0, 20);
        x.tariff(0, numbers(0, 0, 0, 1, 0));
        x.bill(0, 8);
        x.bill(0, 16);
        x.tariff(0, numbers(0, 0, 0, 2, 0));
        Checks.is(16, () -> x.pay(0, 0));
        Checks.is(16, () -> x.correct(0));
        x.tariff(12, numbers(0, 0, 0, 5, 0));
        Checks.is(4 * 3, () -> x.correct(0));
        x.tariff(16, numbers(0, 0, 0, 1000, 0));
        Checks.is(0, () -> x.correct(0));
        x.tariff(4, numbers(0, 0, 0, 0, 0));
        Checks.is(-8 * 2, () -> x.correct(0));
        Checks.is(8 + 20, () -> x.pay(0, 0));
        Checks.is(4000, () -> x.bill(0, 20));
    }

    private static void correctingNothing() {
        Checks.part("promise 20");
        WaterWorks x = MeterTest.withCustomers(1);
        Checks.is(0, () -> x.correct(0));
        x.install(0, 1, 0);
        Checks.is(0, () -> x.correct(0));
        x.pay(0, 5);
        Checks.is(0, () -> x.correct(0));
        Checks.is(-5, () -> x.pay(0, 0));
    }

    private static void paying() {
        Checks.part("promise 21");
        WaterWorks x = used(0, 20);
        x.tariff(0, numbers(0, 0, 0, 100, 0));
        Checks.is(0, () -> x.pay(0, 0));
        Checks.is(-300, () -> x.pay(0, 300));
        x.bill(0, 10);
        Checks.is(700, () -> x.pay(0, 0));
        Checks.is(699, () -> x.pay(0, 1));
        Checks.fails(Checks.ARGUMENT, () -> x.pay(0, -1));
        Checks.fails(Checks.ARGUMENT, () -> x.pay(0, LOWEST));
        Checks.fails(Checks.INDEX, () -> x.pay(1, -1));
        Checks.fails(Checks.INDEX, () -> x.pay(-1, 0));
        Checks.is(699, () -> x.pay(0, 0));
        Checks.is(0, () -> x.pay(0, 699));
        x.tariff(0, 0);
        Checks.is(-1000, () -> x.correct(0));
        Checks.is(-1000, () -> x.pay(0, 0));
        Checks.is(-1000L - HIGHEST, () -> x.pay(0, HIGHEST));
        Checks.is(-1000L - HIGHEST - HIGHEST, () -> x.pay(0, HIGHEST));
    }

    private static void customersAreApart() {
        Checks.part("promise 21");
        WaterWorks x = MeterTest.withCustomers(2);
        x.tariff(0, numbers(0, 0, 1, 0, 0));
        x.install(0, 1, 0);
        x.install(1, 1, 0);
        x.pass(1);
        x.read(0, 3);
        x.read(1, 4);
        x.bill(0, 1);
        Checks.is(0, () -> x.pay(1, 0));
        Checks.is(4, () -> x.bill(1, 1));
        Checks.is(3, () -> x.pay(0, 0));
        Checks.is(1, () -> x.pay(1, 3));
        x.amend(1, 1, 9);
        Checks.is(0, () -> x.correct(0));
        Checks.is(5, () -> x.correct(1));
    }
}
