/** A test for each sentence of the document about bills (promises 18 to 21) that names a boundary case. */
final class BillEdgesTest {
    private static final int LOWEST = Integer.MIN_VALUE;
    private static final int HIGHEST = Integer.MAX_VALUE;
    /** No tariff of the tests has a limit that so few units would pass. */
    private static final int FREE = 1023;

    public static void main(String[] args) {
        dayIsNotZeroToFourHundred();
        numbersBelowZeroOrOfMoreThanFiftyBits();
        sewageShareAboveAThousand();
        thereAreEightOthers();
        inPlaceOfTheOneOfThatDay();
        howManyTariffsThereAre();
        eachNumberInItsPlace();
        holdsFromADayOn();
        enteredInAnyOrder();
        noReading();
        notLaterThanTheBeginning();
        fromTheFirstReadingOfTheFirstMeter();
        fromTheEndOfTheBillBefore();
        thereAreSixBills();
        noCountAtTheEnd();
        noTariffOnTheFirstDay();
        daysTimesTheBasePrice();
        noUseAtAll();
        useUpToTheLimit();
        limitOfThirtyDays();
        limitOfZero();
        sewageToTheNearest();
        sewageOfBothProductsTogether();
        sewageOfThePartsByThemselves();
        cutWhereATariffBegins();
        noCutAtTheEnds();
        cutsEightTimes();
        countsAtTheCuts();
        overAnExchange();
        theDearestBill();
        correctWithoutBills();
        correctByReadings();
        correctByTariffs();
        correctAllBills();
        correctTwice();
        billsAfterACorrection();
        notLessThanZeroCents();
        zeroToAskAlone();
        belowZeroWhenItPaidTooMuch();
        owesAllThatIsBilledLessAllThatWasPaid();
        Checks.end();
    }

    private static long numbers(int limit, int low, int high, int base, int sewage) {
        return BillTest.numbers(limit, low, high, base, sewage);
    }

    private static WaterWorks used(int units, int days) {
        return BillTest.used(units, days);
    }

    private static void dayIsNotZeroToFourHundred() {
        Checks.part("18: IllegalArgumentException: day is not 0 .. 400");
        WaterWorks x = new WaterWorks();
        for (int day : new int[] {-1, 401, -400, LOWEST, HIGHEST}) {
            Checks.fails(Checks.ARGUMENT, () -> x.tariff(day, 0));
        }
        Checks.is(1, () -> x.tariff(0, 0));
        Checks.is(2, () -> x.tariff(400, 0));
    }

    private static void numbersBelowZeroOrOfMoreThanFiftyBits() {
        Checks.part("18: IllegalArgumentException: numbers is below 0 or has more than 50 bits");
        WaterWorks x = new WaterWorks();
        Checks.fails(Checks.ARGUMENT, () -> x.tariff(0, -1));
        Checks.fails(Checks.ARGUMENT, () -> x.tariff(0, Long.MIN_VALUE));
        Checks.fails(Checks.ARGUMENT, () -> x.tariff(0, Long.MIN_VALUE | 1));
        for (int bit = 50; bit < 63; bit++) {
            long numbers = 1L << bit;
            Checks.fails(Checks.ARGUMENT, () -> x.tariff(0, numbers));
            Checks.fails(Checks.ARGUMENT, () -> x.tariff(0, numbers | 1));
        }
        Checks.fails(Checks.ARGUMENT, () -> x.tariff(0, Long.MAX_VALUE));
        Checks.is(1, () -> x.tariff(0, 0));
        Checks.is(1, () -> x.tariff(0, 1L << 49));
        Checks.is(1, () -> x.tariff(0, numbers(1023, 1023, 1023, 1023, 1000)));
    }

    private static void sewageShareAboveAThousand() {
        Checks.part("18: IllegalArgumentException: the sewage share is above 1000");
        WaterWorks x = new WaterWorks();
        for (int share : new int[] {1001, 1002, 1008, 1023}) {
            Checks.fails(Checks.ARGUMENT, () -> x.tariff(0, numbers(0, 0, 0, 0, share)));
            Checks.fails(Checks.ARGUMENT, () -> x.tariff(0, numbers(1023, 1023, 1023, 1023, share)));
        }
        Checks.is(1, () -> x.tariff(0, numbers(0, 0, 0, 0, 1000)));
        Checks.is(2, () -> x.tariff(1, numbers(0, 0, 0, 0, 999)));
        Checks.is(3, () -> x.tariff(2, numbers(0, 0, 0, 1023, 1000)));
    }

    private static void thereAreEightOthers() {
        Checks.part("18: IllegalStateException: there are 8 others");
        WaterWorks x = used(8, 8);
        for (int i = 0; i < 7; i++) {
            x.tariff(i, numbers(0, 0, 1, 0, 0));
        }
        Checks.is(8, () -> x.tariff(7, numbers(0, 0, 1, 0, 0)));
        for (int day : new int[] {8, 9, 400}) {
            Checks.fails(Checks.STATE, () -> x.tariff(day, numbers(0, 0, 100, 0, 0)));
        }
        for (int i = 0; i < 8; i++) {
            int day = i;
            Checks.is(8, () -> x.tariff(day, numbers(0, 0, 2, 0, 0)));
        }
        Checks.is(16, () -> x.bill(0, 8));
    }

    private static void inPlaceOfTheOneOfThatDay() {
        Checks.part("18: in place of the one of that day, if there is one");
        WaterWorks x = used(0, 10);
        x.tariff(0, numbers(0, 0, 0, 1, 0));
        x.tariff(5, numbers(0, 0, 0, 10, 0));
        Checks.is(2, () -> x.tariff(0, numbers(0, 0, 0, 3, 0)));
        Checks.is(2, () -> x.tariff(5, numbers(0, 0, 0, 30, 0)));
        Checks.is(3, () -> x.tariff(4, numbers(0, 0, 0, 100, 0)));
        Checks.is(12 + 100 + 150, () -> x.bill(0, 10));
    }

    private static void howManyTariffsThereAre() {
        Checks.part("18: answers how many tariffs there are");
        WaterWorks x = new WaterWorks();
        Checks.is(1, () -> x.tariff(400, 0));
        Checks.is(1, () -> x.tariff(400, 1));
        Checks.is(2, () -> x.tariff(0, 0));
        Checks.is(2, () -> x.tariff(0, 0));
        Checks.is(2, () -> x.tariff(400, 0));
        Checks.is(3, () -> x.tariff(399, 0));
    }

    /** Each number at its greatest while the others are 0, and the others at theirs while it is 0. */
    private static void eachNumberInItsPlace() {
        Checks.part("18: the limit (10 bits), the low (10), the high (10), the base price (10), the sewage share (10)");
        int[][] rows = {
            {1023, 0, 0, 0, 0, 0}, {0, 1023, 0, 0, 0, 0}, {0, 0, 1023, 0, 0, 600 * 1023},
            {0, 0, 0, 1023, 0, 10 * 1023}, {0, 0, 0, 0, 1000, 0},
            {1023, 1023, 0, 0, 0, 341 * 1023}, {1023, 0, 1023, 0, 0, 259 * 1023},
            {0, 1023, 1023, 1023, 1000, 2 * 600 * 1023 + 10 * 1023},
            {1023, 0, 1023, 1023, 1000, 2 * 259 * 1023 + 10 * 1023},
            {1023, 1023, 0, 1023, 1000, 2 * 341 * 1023 + 10 * 1023},
            {1023, 1023, 1023, 0, 1000, 2 * 600 * 1023},
            {1023, 1023, 1023, 1023, 0, 600 * 1023 + 10 * 1023}};
        for (int[] row : rows) {
            WaterWorks x = used(600, 10);
            x.tariff(0, numbers(row[0], row[1], row[2], row[3], row[4]));
            Checks.is(row[5], () -> x.bill(0, 10));
        }
    }

    private static void holdsFromADayOn() {
        Checks.part("18: hold from a day on, until the day on which the next one by days holds");
        WaterWorks x = used(0, 400);
        x.tariff(0, numbers(0, 0, 0, 1, 0));
        x.tariff(1, numbers(0, 0, 0, 2, 0));
        x.tariff(399, numbers(0, 0, 0, 3, 0));
        x.tariff(400, numbers(0, 0, 0, 1000, 0));
        Checks.is(1, () -> x.bill(0, 1));
        Checks.is(2, () -> x.bill(0, 2));
        Checks.is(2 * 396, () -> x.bill(0, 398));
        Checks.is(2, () -> x.bill(0, 399));
        Checks.is(3, () -> x.bill(0, 400));
    }

    private static void enteredInAnyOrder() {
        Checks.part("18: the next one by days, not by the order in which they are entered");
        int[][] orders = {{0, 1, 2}, {0, 2, 1}, {1, 0, 2}, {1, 2, 0}, {2, 0, 1}, {2, 1, 0}};
        for (int[] order : orders) {
            WaterWorks x = used(0, 30);
            for (int i : order) {
                x.tariff(10 * i, numbers(0, 0, 0, 1 + 9 * i, 0));
            }
            Checks.is(10 + 100 + 190, () -> x.bill(0, 30));
        }
    }

    private static void noReading() {
        Checks.part("19: NoSuchElementException: there is no reading (without a reading, only this)");
        WaterWorks x = MeterTest.withCustomers(1);
        for (int day : new int[] {0, 1, -1, 400, 401, LOWEST, HIGHEST}) {
            Checks.fails(Checks.NO_SUCH, () -> x.bill(0, day));
        }
        x.tariff(0, 0);
        Checks.fails(Checks.NO_SUCH, () -> x.bill(0, 0));
        Checks.fails(Checks.NO_SUCH, () -> x.bill(0, 1));
    }

    private static void notLaterThanTheBeginning() {
        Checks.part("19: IllegalArgumentException: the day is not later than that from which the bill would be");
        WaterWorks x = MeterTest.withCustomers(1);
        x.tariff(0, numbers(0, 0, 0, 1, 0));
        x.pass(10);
        x.install(0, 1, 0);
        x.pass(10);
        x.read(0, 0);
        for (int day : new int[] {10, 9, 0, -1, LOWEST}) {
            Checks.fails(Checks.ARGUMENT, () -> x.bill(0, day));
        }
        Checks.is(1, () -> x.bill(0, 11));
        for (int day : new int[] {11, 10, 0, LOWEST}) {
            Checks.fails(Checks.ARGUMENT, () -> x.bill(0, day));
        }
        Checks.is(1, () -> x.bill(0, 12));
    }

    private static void fromTheFirstReadingOfTheFirstMeter() {
        Checks.part("19: from the first reading of the first meter for the first one");
        WaterWorks x = MeterTest.withCustomers(1);
        x.tariff(0, numbers(0, 0, 0, 1, 0));
        x.pass(3);
        x.install(0, 1, 0);
        x.pass(5);
        x.install(0, 1, 0);
        x.pass(7);
        x.read(0, 0);
        Checks.is(12, () -> x.bill(0, 15));
    }

    private static void fromTheEndOfTheBillBefore() {
        Checks.part("19: from the end of the bill before up to another one");
        WaterWorks x = used(30, 30);
        x.tariff(0, numbers(FREE, 1, 1, 100, 0));
        Checks.is(101, () -> x.bill(0, 1));
        Checks.is(2828, () -> x.bill(0, 29));
        Checks.is(101, () -> x.bill(0, 30));
        Checks.fails(Checks.NO_SUCH, () -> x.bill(0, 31));
    }

    private static void thereAreSixBills() {
        Checks.part("19: IllegalStateException: there are 6 bills");
        WaterWorks x = used(0, 30);
        x.tariff(0, numbers(0, 0, 0, 1, 0));
        for (int i = 1; i <= 5; i++) {
            x.bill(0, i);
        }
        Checks.is(4, () -> x.bill(0, 9));
        Checks.fails(Checks.STATE, () -> x.bill(0, 10));
        Checks.fails(Checks.STATE, () -> x.bill(0, 30));
        Checks.is(9, () -> x.pay(0, 0));
        x.tariff(0, numbers(0, 0, 0, 2, 0));
        Checks.is(9, () -> x.correct(0));
        Checks.fails(Checks.STATE, () -> x.bill(0, 10));
    }

    private static void noCountAtTheEnd() {
        Checks.part("19: NoSuchElementException: the price is not known, the count at b is not");
        WaterWorks x = used(10, 10);
        x.tariff(0, numbers(0, 0, 1, 0, 0));
        x.pass(20);
        for (int day : new int[] {11, 30, 31, 400, 401, HIGHEST}) {
            Checks.fails(Checks.NO_SUCH, () -> x.bill(0, day));
        }
        Checks.is(10, () -> x.bill(0, 10));
        Checks.fails(Checks.NO_SUCH, () -> x.bill(0, 11));
        x.read(0, 9010);
        Checks.is(0, () -> x.bill(0, 11));
    }

    private static void noTariffOnTheFirstDay() {
        Checks.part("19: NoSuchElementException: the price is not known, no tariff holds on day a");
        WaterWorks x = MeterTest.withCustomers(1);
        x.pass(5);
        x.install(0, 1, 0);
        x.pass(5);
        x.read(0, 0);
        Checks.fails(Checks.NO_SUCH, () -> x.bill(0, 10));
        x.tariff(10, numbers(0, 0, 0, 1, 0));
        Checks.fails(Checks.NO_SUCH, () -> x.bill(0, 10));
        x.tariff(6, numbers(0, 0, 0, 1, 0));
        Checks.fails(Checks.NO_SUCH, () -> x.bill(0, 10));
        x.tariff(5, numbers(0, 0, 0, 1, 0));
        Checks.is(5, () -> x.bill(0, 10));
        WaterWorks y = MeterTest.withCustomers(1);
        y.pass(5);
        y.install(0, 1, 0);
        y.pass(1);
        y.read(0, 0);
        y.tariff(4, numbers(0, 0, 0, 7, 0));
        Checks.is(7, () -> y.bill(0, 6));
    }

    private static void daysTimesTheBasePrice() {
        Checks.part("19: it is d times the base price");
        WaterWorks x = used(0, 400);
        x.tariff(0, numbers(0, 0, 0, 1023, 1000));
        Checks.is(1023, () -> x.bill(0, 1));
        Checks.is(399 * 1023, () -> x.bill(0, 400));
    }

    private static void noUseAtAll() {
        Checks.part("19: u units, 0 of them");
        WaterWorks x = used(0, 30);
        x.tariff(0, numbers(5, 7, 1000, 0, 1000));
        Checks.is(0, () -> x.bill(0, 30));
        Checks.is(0, () -> x.pay(0, 0));
    }

    private static void useUpToTheLimit() {
        Checks.part("19: u' being u or, if that is less, the limit * d / 30");
        int[] uses = {0, 1, 9, 10, 11, 12};
        int[] due = {0, 3, 27, 30, 130, 230};
        for (int i = 0; i < uses.length; i++) {
            WaterWorks x = used(uses[i], 30);
            x.tariff(0, numbers(10, 3, 100, 0, 0));
            int price = due[i];
            Checks.is(price, () -> x.bill(0, 30));
        }
    }

    private static void limitOfThirtyDays() {
        Checks.part("19: the limit * d / 30, rounded down");
        int[] days = {1, 2, 3, 29, 30, 31, 59, 60, 61};
        int[] low = {0, 0, 1, 9, 10, 10, 19, 20, 20};
        for (int i = 0; i < days.length; i++) {
            WaterWorks x = used(100, days[i]);
            x.tariff(0, numbers(10, 0, 1, 0, 0));
            int day = days[i];
            int price = 100 - low[i];
            Checks.is(price, () -> x.bill(0, day));
        }
    }

    private static void limitOfZero() {
        Checks.part("19: a limit of 0");
        WaterWorks x = used(100, 30);
        x.tariff(0, numbers(0, 1000, 1, 0, 0));
        Checks.is(100, () -> x.bill(0, 30));
    }

    private static void sewageToTheNearest() {
        Checks.part("19: rounded to the nearest whole (of two that are as near the greater one)");
        int[] shares = {0, 1, 499, 500, 501, 999, 1000};
        int[] ofOne = {0, 0, 0, 1, 1, 1, 1};
        int[] ofThree = {0, 0, 1, 2, 2, 3, 3};
        for (int i = 0; i < shares.length; i++) {
            WaterWorks x = used(1, 1);
            WaterWorks y = used(3, 1);
            x.tariff(0, numbers(FREE, 1, 0, 0, shares[i]));
            y.tariff(0, numbers(FREE, 1, 0, 0, shares[i]));
            int one = 1 + ofOne[i];
            int three = 3 + ofThree[i];
            Checks.is(one, () -> x.bill(0, 1));
            Checks.is(three, () -> y.bill(0, 1));
        }
    }

    /** Each product by itself would give a sewage of 0, and the base price with them one of 4. */
    private static void sewageOfBothProductsTogether() {
        Checks.part("19: of these two products together the sewage share");
        WaterWorks x = used(2, 30);
        x.tariff(0, numbers(1, 4, 4, 1, 100));
        Checks.is(30 + 8 + 1, () -> x.bill(0, 30));
    }

    private static void sewageOfThePartsByThemselves() {
        Checks.part("19: of each part the sewage is rounded by itself");
        WaterWorks x = used(2, 2);
        x.tariff(0, numbers(FREE, 4, 4, 0, 100));
        x.tariff(1, numbers(FREE, 4, 4, 0, 100));
        Checks.is(8, () -> x.bill(0, 2));
        WaterWorks y = used(2, 2);
        y.tariff(0, numbers(FREE, 4, 4, 0, 100));
        Checks.is(9, () -> y.bill(0, 2));
    }

    private static void cutWhereATariffBegins() {
        Checks.part("19: the days are cut where tariffs begin");
        for (int cut = 1; cut < 10; cut++) {
            WaterWorks x = used(100, 10);
            x.tariff(0, numbers(FREE, 1, 0, 0, 0));
            x.tariff(cut, numbers(0, 0, 0, 1000, 0));
            // The limit of so few days is passed early: 1023 * d / 30.
            int due = Math.min(10 * cut, 1023 * cut / 30) + 1000 * (10 - cut);
            Checks.is(due, () -> x.bill(0, 10));
        }
    }

    private static void noCutAtTheEnds() {
        Checks.part("19: a tariff that begins on day a, or on day b");
        WaterWorks x = used(0, 20);
        x.tariff(0, numbers(0, 0, 0, 1, 0));
        x.tariff(10, numbers(0, 0, 0, 100, 0));
        x.tariff(20, numbers(0, 0, 0, 1000, 0));
        Checks.is(10, () -> x.bill(0, 10));
        Checks.is(1000, () -> x.bill(0, 20));
        Checks.is(0, () -> x.correct(0));
    }

    private static void cutsEightTimes() {
        Checks.part("19: cuts by all 8 tariffs");
        WaterWorks x = used(0, 400);
        int due = 0;
        for (int i = 7; i >= 0; i--) {
            x.tariff(50 * i, numbers(0, 0, 0, 1 << i, 0));
            due += 50 << i;
        }
        int all = due;
        Checks.is(all, () -> x.bill(0, 400));
    }

    private static void countsAtTheCuts() {
        Checks.part("19: u units (the count at its end less that at its beginning)");
        WaterWorks x = used(5, 3);
        // Counts 0, 1 and 2 thirds, 3 and 1 third, 5.
        for (int i = 0; i < 3; i++) {
            x.tariff(i, numbers(0, 0, i == 0 ? 1 : i == 1 ? 10 : 100, 0, 0));
        }
        Checks.is(1 + 2 * 10 + 2 * 100, () -> x.bill(0, 3));
        WaterWorks y = used(5, 3);
        y.tariff(0, numbers(0, 0, 1, 0, 0));
        Checks.is(1, () -> y.bill(0, 1));
        Checks.is(2, () -> y.bill(0, 2));
        Checks.is(2, () -> y.bill(0, 3));
    }

    private static void overAnExchange() {
        Checks.part("19: a bill over an exchange of meters, and round the top");
        WaterWorks x = MeterTest.withCustomers(1);
        x.tariff(0, numbers(0, 0, 1, 0, 0));
        x.install(0, 1, 9);
        x.pass(5);
        x.read(0, 0);
        x.install(0, 2, 99);
        x.pass(5);
        x.read(0, 1);
        Checks.is(1 + 2, () -> x.bill(0, 10));
    }

    private static void theDearestBill() {
        Checks.part("19: the dearest bill, and what is owed then");
        WaterWorks x = MeterTest.withCustomers(1);
        x.tariff(0, numbers(1023, 1023, 1023, 1023, 1000));
        x.install(0, 4, 23);
        for (int i = 1; i < 24; i++) {
            x.pass(i == 1 ? 378 : 1);
            x.read(0, 23 - i);
        }
        long due = 400L * 1023 + 2L * 1023 * 23 * 9999;
        Checks.is(due, () -> x.bill(0, 400));
        Checks.is(due, () -> x.pay(0, 0));
        x.tariff(0, 0);
        Checks.is(-due, () -> x.correct(0));
    }

    private static void correctWithoutBills() {
        Checks.part("20: all bills of a customer, none of them");
        WaterWorks x = MeterTest.withCustomers(1);
        Checks.is(0, () -> x.correct(0));
        x.pay(0, 7);
        Checks.is(0, () -> x.correct(0));
        x.install(0, 1, 0);
        Checks.is(0, () -> x.correct(0));
        x.tariff(0, numbers(0, 0, 9, 9, 0));
        Checks.is(0, () -> x.correct(0));
        Checks.is(-7, () -> x.pay(0, 0));
    }

    private static void correctByReadings() {
        Checks.part("20: by the present readings (below 0 for less)");
        WaterWorks x = used(10, 10);
        x.tariff(0, numbers(0, 0, 3, 0, 0));
        Checks.is(30, () -> x.bill(0, 10));
        x.amend(0, 1, 9011);
        Checks.is(3, () -> x.correct(0));
        x.amend(0, 1, 9009);
        Checks.is(-6, () -> x.correct(0));
        x.amend(0, 1, 9000);
        Checks.is(-27, () -> x.correct(0));
        Checks.is(0, () -> x.pay(0, 0));
    }

    private static void correctByTariffs() {
        Checks.part("20: by the present tariffs (below 0 for less)");
        WaterWorks x = used(0, 10);
        x.tariff(0, numbers(0, 0, 0, 3, 0));
        Checks.is(30, () -> x.bill(0, 10));
        x.tariff(9, numbers(0, 0, 0, 2, 0));
        Checks.is(-1, () -> x.correct(0));
        x.tariff(10, numbers(0, 0, 0, 1000, 0));
        Checks.is(0, () -> x.correct(0));
        x.tariff(9, numbers(0, 0, 0, 4, 0));
        Checks.is(2, () -> x.correct(0));
        Checks.is(31, () -> x.pay(0, 0));
    }

    private static void correctAllBills() {
        Checks.part("20: all bills of a customer are put right, and of no other one");
        WaterWorks x = MeterTest.withCustomers(2);
        x.tariff(0, numbers(0, 0, 0, 1, 0));
        for (int i = 0; i < 2; i++) {
            x.install(i, 1, 0);
        }
        x.pass(6);
        for (int i = 0; i < 2; i++) {
            x.read(i, 0);
            for (int day = 1; day <= 6; day++) {
                x.bill(i, day);
            }
        }
        for (int i = 0; i < 6; i++) {
            x.tariff(i, numbers(0, 0, 0, 1 + (1 << i), 0));
        }
        Checks.is(63, () -> x.correct(0));
        Checks.is(69, () -> x.pay(0, 0));
        Checks.is(6, () -> x.pay(1, 0));
        Checks.is(63, () -> x.correct(1));
    }

    private static void correctTwice() {
        Checks.part("20: answers how much more is billed then, of what was put right already 0");
        WaterWorks x = used(0, 10);
        x.tariff(0, numbers(0, 0, 0, 3, 0));
        x.bill(0, 10);
        Checks.is(0, () -> x.correct(0));
        x.tariff(0, numbers(0, 0, 0, 5, 0));
        x.pay(0, 1000);
        Checks.is(20, () -> x.correct(0));
        Checks.is(0, () -> x.correct(0));
        Checks.is(-950, () -> x.pay(0, 0));
        x.tariff(0, numbers(0, 0, 0, 3, 0));
        Checks.is(-20, () -> x.correct(0));
        Checks.is(-970, () -> x.pay(0, 0));
    }

    private static void billsAfterACorrection() {
        Checks.part("20: a bill is worth what it was made for until it is put right");
        WaterWorks x = used(0, 10);
        x.tariff(0, numbers(0, 0, 0, 3, 0));
        Checks.is(15, () -> x.bill(0, 5));
        x.tariff(0, numbers(0, 0, 0, 5, 0));
        Checks.is(25, () -> x.bill(0, 10));
        Checks.is(40, () -> x.pay(0, 0));
        Checks.is(10, () -> x.correct(0));
        Checks.is(50, () -> x.pay(0, 0));
    }

    private static void notLessThanZeroCents() {
        Checks.part("21: IllegalArgumentException: cents is below 0");
        WaterWorks x = MeterTest.withCustomers(1);
        Checks.fails(Checks.ARGUMENT, () -> x.pay(0, -1));
        Checks.fails(Checks.ARGUMENT, () -> x.pay(0, LOWEST));
        Checks.is(0, () -> x.pay(0, 0));
    }

    private static void zeroToAskAlone() {
        Checks.part("21: a customer pays so many cents, 0 to ask alone");
        WaterWorks x = used(0, 10);
        x.tariff(0, numbers(0, 0, 0, 3, 0));
        Checks.is(0, () -> x.pay(0, 0));
        x.bill(0, 10);
        Checks.is(30, () -> x.pay(0, 0));
        Checks.is(30, () -> x.pay(0, 0));
        Checks.is(29, () -> x.pay(0, 1));
        Checks.is(29, () -> x.pay(0, 0));
    }

    private static void belowZeroWhenItPaidTooMuch() {
        Checks.part("21: answers what it owes then (below 0 when it paid too much)");
        WaterWorks x = used(0, 10);
        x.tariff(0, numbers(0, 0, 0, 3, 0));
        x.bill(0, 10);
        Checks.is(0, () -> x.pay(0, 30));
        Checks.is(-1, () -> x.pay(0, 1));
        long owes = -1;
        for (int i = 0; i < 400; i++) {
            owes -= HIGHEST;
            long due = owes;
            Checks.is(due, () -> x.pay(0, HIGHEST));
        }
    }

    private static void owesAllThatIsBilledLessAllThatWasPaid() {
        Checks.part("21: all that is billed less all that was paid, of each customer by itself");
        WaterWorks x = MeterTest.withCustomers(10);
        x.tariff(0, numbers(0, 0, 0, 3, 0));
        for (int i = 0; i < 10; i++) {
            x.install(i, 1, 0);
        }
        x.pass(10);
        for (int i = 0; i < 10; i++) {
            x.read(i, 0);
            x.bill(i, 10 - i);
            x.pay(i, i);
        }
        for (int i = 0; i < 10; i++) {
            int customer = i;
            Checks.is(3 * (10 - customer) - customer, () -> x.pay(customer, 0));
        }
    }
}
