/** A test for each sentence of the document about meters (promises 13 to 17) that names a boundary case. */
final class MeterEdgesTest {
    private static final int LOWEST = Integer.MIN_VALUE;
    private static final int HIGHEST = Integer.MAX_VALUE;

    public static void main(String[] args) {
        todayBecomesALaterDay();
        daysIsNotOneToFourHundred();
        laterThanDayFourHundred();
        digitsIsNotOneToFour();
        theFirstMeterShows();
        aMeterShowsNoMoreThanItsDigits();
        firstMeterOrNewOne();
        installsAreTwentyFour();
        twiceOnOneDay();
        aNewMeterOnTheDayOfAReading();
        aNewMeterOnALaterDay();
        thereIsNoMeter();
        readingsAreTwentyFour();
        readTwiceOnOneDay();
        theReadingIsNoNumberOfTheMeter();
        theNewMeterSetsTheBound();
        thereIsNoneToAmend();
        amendedIsNoNumberOfItsMeter();
        whatWasRecordedBefore();
        firstAndLastReadingAmended();
        amendedRoundTheTop();
        useOfEqualNumbers();
        useRoundTheTop();
        noUseBetweenMeters();
        countIsZeroAtTheFirst();
        countsBetweenReadings();
        countsAreRoundedDownOfTheUseAlone();
        countOfTwoReadingsOfOneDay();
        notKnownOnOtherDays();
        notKnownWithoutReadings();
        knownOnOneDayAlone();
        dayBeforeDay();
        theGreatestCount();
        overTheWholeYear();
        Checks.end();
    }

    private static void todayBecomesALaterDay() {
        Checks.part("13: today becomes a later day");
        WaterWorks x = new WaterWorks();
        Checks.is(1, () -> x.pass(1));
        Checks.is(2, () -> x.pass(1));
        Checks.is(400, () -> x.pass(398));
        Checks.is(400, () -> new WaterWorks().pass(400));
    }

    private static void daysIsNotOneToFourHundred() {
        Checks.part("13: IllegalArgumentException: days is not 1 .. 400");
        WaterWorks x = new WaterWorks();
        for (int days : new int[] {0, -1, 401, -400, LOWEST, HIGHEST}) {
            Checks.fails(Checks.ARGUMENT, () -> x.pass(days));
        }
        Checks.is(400, () -> x.pass(400));
    }

    private static void laterThanDayFourHundred() {
        Checks.part("13: IllegalArgumentException: it would be later than day 400");
        WaterWorks x = new WaterWorks();
        x.pass(1);
        Checks.fails(Checks.ARGUMENT, () -> x.pass(400));
        Checks.fails(Checks.ARGUMENT, () -> x.pass(HIGHEST));
        Checks.is(400, () -> x.pass(399));
        Checks.fails(Checks.ARGUMENT, () -> x.pass(1));
        Checks.fails(Checks.ARGUMENT, () -> x.pass(-1));
        Checks.fails(Checks.ARGUMENT, () -> x.pass(0));
    }

    private static void digitsIsNotOneToFour() {
        Checks.part("14: IllegalArgumentException: digits is not 1 .. 4");
        WaterWorks x = MeterTest.withCustomers(2);
        for (int digits : new int[] {0, -1, 5, 9, 10, LOWEST, HIGHEST}) {
            Checks.fails(Checks.ARGUMENT, () -> x.install(0, digits, 0));
        }
        Checks.is(1, () -> x.install(0, 1, 0));
        Checks.is(1, () -> x.install(1, 4, 0));
    }

    private static void theFirstMeterShows() {
        Checks.part("14: IllegalArgumentException: shows is not a number that it can show");
        int[] numbers = {10, 100, 1000, 10000};
        for (int i = 0; i < 4; i++) {
            WaterWorks x = MeterTest.withCustomers(2);
            int digits = i + 1;
            int above = numbers[i];
            for (int shows : new int[] {-1, above, above + 1, -above, LOWEST, HIGHEST}) {
                Checks.fails(Checks.ARGUMENT, () -> x.install(0, digits, shows));
            }
            Checks.is(1, () -> x.install(0, digits, above - 1));
            Checks.is(1, () -> x.install(1, digits, 0));
        }
    }

    /** The bound is that of the new meter, not of the old one. */
    private static void aMeterShowsNoMoreThanItsDigits() {
        Checks.part("14: a meter shows a number below 10 to its digits");
        WaterWorks x = MeterTest.withCustomers(1);
        x.install(0, 4, 9999);
        x.pass(1);
        Checks.fails(Checks.ARGUMENT, () -> x.install(0, 1, 10));
        Checks.is(2, () -> x.install(0, 1, 9));
        x.pass(1);
        Checks.is(3, () -> x.install(0, 2, 99));
    }

    private static void firstMeterOrNewOne() {
        Checks.part("14: answers how many readings the customer has");
        WaterWorks x = MeterTest.withCustomers(2);
        Checks.is(1, () -> x.install(0, 1, 5));
        x.pass(1);
        Checks.is(2, () -> x.read(0, 6));
        Checks.is(3, () -> x.install(0, 1, 5));
        Checks.is(1, () -> x.install(1, 1, 5));
    }

    private static void installsAreTwentyFour() {
        Checks.part("14: IllegalStateException: there are 24 readings");
        WaterWorks x = MeterTest.withCustomers(2);
        x.install(0, 2, 0);
        x.pass(1);
        for (int i = 2; i <= 22; i++) {
            x.read(0, i);
            x.pass(1);
        }
        Checks.is(23, () -> x.read(0, 23));
        Checks.is(24, () -> x.install(0, 2, 50));
        Checks.fails(Checks.STATE, () -> x.install(0, 2, 60));
        x.pass(1);
        Checks.fails(Checks.STATE, () -> x.install(0, 2, 60));
        Checks.fails(Checks.NO_SUCH, () -> x.amend(0, 24, 60));
        Checks.is(50, () -> x.amend(0, 23, 51));
        Checks.is(23, () -> x.used(0, 0, 22));
        Checks.fails(Checks.NO_SUCH, () -> x.used(0, 0, 23));
        Checks.is(1, () -> x.install(1, 2, 60));
    }

    private static void twiceOnOneDay() {
        Checks.part("14: IllegalStateException: the last one is of today and the first one of its meter");
        WaterWorks x = MeterTest.withCustomers(1);
        x.install(0, 1, 5);
        Checks.fails(Checks.STATE, () -> x.install(0, 1, 5));
        Checks.fails(Checks.STATE, () -> x.install(0, 2, 55));
        x.pass(1);
        Checks.is(2, () -> x.read(0, 5));
        Checks.is(3, () -> x.install(0, 1, 5));
        Checks.fails(Checks.STATE, () -> x.install(0, 1, 5));
        x.pass(1);
        Checks.is(4, () -> x.install(0, 1, 5));
        Checks.fails(Checks.STATE, () -> x.install(0, 1, 5));
    }

    private static void aNewMeterOnTheDayOfAReading() {
        Checks.part("14: the first one of a new meter is of the same day as the last one of the old meter");
        WaterWorks x = MeterTest.withCustomers(1);
        x.install(0, 2, 10);
        x.pass(3);
        x.read(0, 40);
        Checks.is(3, () -> x.install(0, 4, 7000));
        Checks.is(30, () -> x.used(0, 0, 3));
        x.pass(1);
        Checks.is(4, () -> x.read(0, 7001));
        Checks.is(31, () -> x.used(0, 0, 4));
        Checks.is(1, () -> x.used(0, 3, 4));
    }

    private static void aNewMeterOnALaterDay() {
        Checks.part("14: the first one of a new meter is of a later day than the last one of the old meter");
        WaterWorks x = MeterTest.withCustomers(1);
        x.install(0, 2, 10);
        x.pass(400);
        Checks.is(2, () -> x.install(0, 4, 7000));
        Checks.is(0, () -> x.used(0, 0, 400));
        Checks.is(0, () -> x.used(0, 1, 399));
    }

    private static void thereIsNoMeter() {
        Checks.part("15: IllegalStateException: there is no meter");
        WaterWorks x = MeterTest.withCustomers(2);
        x.install(1, 1, 0);
        x.pass(1);
        Checks.fails(Checks.STATE, () -> x.read(0, 0));
        Checks.fails(Checks.STATE, () -> x.read(0, 9));
        Checks.is(2, () -> x.read(1, 0));
        Checks.is(1, () -> x.install(0, 1, 0));
    }

    private static void readingsAreTwentyFour() {
        Checks.part("15: IllegalStateException: there are 24 readings");
        WaterWorks x = MeterTest.withCustomers(1);
        for (int i = 1; i < 24; i++) {
            x.install(0, 2, 0);
            x.pass(1);
        }
        Checks.is(24, () -> x.read(0, 60));
        x.pass(1);
        Checks.fails(Checks.STATE, () -> x.read(0, 61));
        Checks.is(60, () -> x.used(0, 0, 23));
        Checks.fails(Checks.NO_SUCH, () -> x.used(0, 0, 24));
    }

    private static void readTwiceOnOneDay() {
        Checks.part("15: IllegalStateException: the last one is of today");
        WaterWorks x = MeterTest.withCustomers(1);
        x.install(0, 1, 5);
        Checks.fails(Checks.STATE, () -> x.read(0, 5));
        x.pass(1);
        Checks.is(2, () -> x.read(0, 7));
        Checks.fails(Checks.STATE, () -> x.read(0, 8));
        Checks.is(2, () -> x.used(0, 0, 1));
        Checks.is(3, () -> x.install(0, 1, 5));
        Checks.fails(Checks.STATE, () -> x.read(0, 5));
        x.pass(1);
        Checks.is(4, () -> x.read(0, 5));
    }

    private static void theReadingIsNoNumberOfTheMeter() {
        Checks.part("15: IllegalArgumentException: shows is not a number that the meter can show");
        int[] numbers = {10, 100, 1000, 10000};
        for (int i = 0; i < 4; i++) {
            WaterWorks x = MeterTest.withCustomers(1);
            int above = numbers[i];
            x.install(0, i + 1, 0);
            x.pass(1);
            for (int shows : new int[] {-1, above, above + 1, -above, LOWEST, HIGHEST}) {
                Checks.fails(Checks.ARGUMENT, () -> x.read(0, shows));
            }
            Checks.is(2, () -> x.read(0, above - 1));
            x.pass(1);
            Checks.is(3, () -> x.read(0, 0));
        }
    }

    private static void theNewMeterSetsTheBound() {
        Checks.part("15: the meter is the one that was installed last");
        WaterWorks x = MeterTest.withCustomers(1);
        x.install(0, 4, 9999);
        x.pass(1);
        x.install(0, 1, 9);
        x.pass(1);
        Checks.fails(Checks.ARGUMENT, () -> x.read(0, 10));
        Checks.is(3, () -> x.read(0, 9));
        x.install(0, 2, 9);
        x.pass(1);
        Checks.fails(Checks.ARGUMENT, () -> x.read(0, 100));
        Checks.is(5, () -> x.read(0, 99));
    }

    private static void thereIsNoneToAmend() {
        Checks.part("16: NoSuchElementException: there is none such");
        WaterWorks x = MeterTest.withCustomers(2);
        Checks.fails(Checks.NO_SUCH, () -> x.amend(0, 0, 0));
        Checks.fails(Checks.NO_SUCH, () -> x.amend(0, -1, 0));
        x.install(0, 1, 5);
        x.pass(1);
        x.read(0, 6);
        for (int i : new int[] {2, 3, 23, 24, 25, -1, LOWEST, HIGHEST}) {
            Checks.fails(Checks.NO_SUCH, () -> x.amend(0, i, 0));
        }
        Checks.fails(Checks.NO_SUCH, () -> x.amend(1, 0, 0));
        Checks.is(6, () -> x.amend(0, 1, 6));
        Checks.is(5, () -> x.amend(0, 0, 5));
    }

    private static void amendedIsNoNumberOfItsMeter() {
        Checks.part("16: IllegalArgumentException: shows is not a number that its meter can show");
        WaterWorks x = MeterTest.withCustomers(1);
        int[] numbers = {10000, 10, 1000, 100};
        int[] digits = {4, 1, 3, 2};
        for (int i = 0; i < 4; i++) {
            x.install(0, digits[i], i);
            x.pass(1);
        }
        for (int i = 0; i < 4; i++) {
            int reading = i;
            int above = numbers[i];
            for (int shows : new int[] {-1, above, above + 1, -above, LOWEST, HIGHEST}) {
                Checks.fails(Checks.ARGUMENT, () -> x.amend(0, reading, shows));
            }
            Checks.is(reading, () -> x.amend(0, reading, above - 1));
            Checks.is(above - 1, () -> x.amend(0, reading, 0));
            Checks.is(0, () -> x.amend(0, reading, 0));
        }
    }

    private static void whatWasRecordedBefore() {
        Checks.part("16: answers what was recorded before");
        WaterWorks x = MeterTest.withCustomers(1);
        x.install(0, 2, 99);
        Checks.is(99, () -> x.amend(0, 0, 98));
        Checks.is(98, () -> x.amend(0, 0, 98));
        Checks.is(98, () -> x.amend(0, 0, 0));
        Checks.is(0, () -> x.amend(0, 0, 99));
    }

    private static void firstAndLastReadingAmended() {
        Checks.part("16: reading i of a customer (from 0) showed another number");
        WaterWorks x = MeterTest.withCustomers(1);
        x.install(0, 2, 10);
        for (int i = 1; i < 24; i++) {
            x.pass(1);
            x.read(0, 10 + i);
        }
        Checks.is(10, () -> x.amend(0, 0, 0));
        Checks.is(11, () -> x.used(0, 0, 1));
        Checks.is(33, () -> x.used(0, 0, 23));
        Checks.is(33, () -> x.amend(0, 23, 99));
        Checks.is(67, () -> x.used(0, 22, 23));
        Checks.is(99, () -> x.used(0, 0, 23));
        Checks.is(20, () -> x.amend(0, 10, 21));
        Checks.is(2, () -> x.used(0, 9, 10));
        Checks.is(0, () -> x.used(0, 10, 11));
        Checks.is(99, () -> x.used(0, 0, 23));
    }

    private static void amendedRoundTheTop() {
        Checks.part("16: an amended number may be below the one before");
        WaterWorks x = MeterTest.withCustomers(1);
        x.install(0, 2, 10);
        x.pass(1);
        x.read(0, 20);
        x.pass(1);
        x.read(0, 30);
        x.amend(0, 1, 9);
        Checks.is(99, () -> x.used(0, 0, 1));
        Checks.is(21, () -> x.used(0, 1, 2));
        x.amend(0, 1, 31);
        Checks.is(21, () -> x.used(0, 0, 1));
        Checks.is(99, () -> x.used(0, 1, 2));
    }

    private static void useOfEqualNumbers() {
        Checks.part("17: the use is the second number less the first one, of equal numbers 0");
        for (int digits = 1; digits <= 4; digits++) {
            WaterWorks x = MeterTest.withCustomers(1);
            x.install(0, digits, 7);
            x.pass(1);
            x.read(0, 7);
            Checks.is(0, () -> x.used(0, 0, 1));
        }
    }

    private static void useRoundTheTop() {
        Checks.part("17: and 10 to the digits more if that is below 0");
        int[] numbers = {10, 100, 1000, 10000};
        for (int i = 0; i < 4; i++) {
            WaterWorks x = MeterTest.withCustomers(1);
            int above = numbers[i];
            x.install(0, i + 1, above - 1);
            x.pass(1);
            x.read(0, 0);
            Checks.is(1, () -> x.used(0, 0, 1));
            x.pass(1);
            x.read(0, above - 1);
            Checks.is(above - 1, () -> x.used(0, 1, 2));
            x.pass(1);
            x.read(0, above - 2);
            Checks.is(above - 1, () -> x.used(0, 2, 3));
            Checks.is(2 * above - 1, () -> x.used(0, 0, 3));
        }
    }

    private static void noUseBetweenMeters() {
        Checks.part("17: between the last reading of a meter and the first one of the next meter it is 0");
        for (int shows : new int[] {0, 49, 50, 51, 99}) {
            WaterWorks x = MeterTest.withCustomers(1);
            x.install(0, 2, 50);
            x.pass(10);
            x.install(0, 2, shows);
            Checks.is(0, () -> x.used(0, 0, 10));
            Checks.is(0, () -> x.used(0, 0, 5));
            x.amend(0, 1, 99 - shows);
            x.amend(0, 0, 51);
            Checks.is(0, () -> x.used(0, 0, 10));
        }
    }

    private static void countIsZeroAtTheFirst() {
        Checks.part("17: the count of a customer is 0 at the first reading of the first meter");
        WaterWorks x = MeterTest.withCustomers(1);
        x.install(0, 4, 9999);
        Checks.is(0, () -> x.used(0, 0, 0));
        x.pass(3);
        x.read(0, 9999);
        // Were the count 1 or more, thirds of it would be seen on the days between.
        Checks.is(0, () -> x.used(0, 0, 1));
        x.amend(0, 1, 0);
        Checks.is(0, () -> x.used(0, 0, 2));
        Checks.is(1, () -> x.used(0, 0, 3));
    }

    private static void countsBetweenReadings() {
        Checks.part("17: x and (y - x) * (day - a) / (b - a), rounded down");
        WaterWorks x = MeterTest.withCustomers(1);
        x.pass(5);
        x.install(0, 2, 0);
        x.pass(3);
        x.read(0, 2);
        x.pass(4);
        x.read(0, 9);
        // Day 5 to 12: 0, 2/3, 4/3, 2, 2 and 7/4, 2 and 14/4, 2 and 21/4, 9.
        int[] due = {0, 0, 1, 2, 3, 5, 7, 9};
        for (int i = 0; i < due.length; i++) {
            int day = 5 + i;
            int count = due[i];
            Checks.is(count, () -> x.used(0, 5, day));
            Checks.is(9 - count, () -> x.used(0, day, 12));
        }
    }

    private static void countsAreRoundedDownOfTheUseAlone() {
        Checks.part("17: the use of some days is the difference of two counts, each rounded down");
        WaterWorks x = MeterTest.withCustomers(1);
        x.install(0, 4, 0);
        x.pass(2);
        x.read(0, 1);
        x.pass(2);
        x.read(0, 2);
        Checks.is(0, () -> x.used(0, 0, 1));
        Checks.is(1, () -> x.used(0, 1, 2));
        Checks.is(1, () -> x.used(0, 1, 3));
        Checks.is(0, () -> x.used(0, 2, 3));
        Checks.is(1, () -> x.used(0, 3, 4));
    }

    private static void countOfTwoReadingsOfOneDay() {
        Checks.part("17: of two of one day the count is that of the second one");
        WaterWorks x = MeterTest.withCustomers(1);
        x.install(0, 2, 90);
        x.pass(4);
        x.read(0, 10);
        x.install(0, 2, 80);
        Checks.is(20, () -> x.used(0, 0, 4));
        Checks.is(0, () -> x.used(0, 4, 4));
        x.pass(4);
        x.read(0, 0);
        Checks.is(15, () -> x.used(0, 0, 3));
        Checks.is(20, () -> x.used(0, 0, 4));
        Checks.is(25, () -> x.used(0, 0, 5));
        Checks.is(40, () -> x.used(0, 0, 8));
    }

    private static void notKnownOnOtherDays() {
        Checks.part("17: NoSuchElementException: one of the two is not known");
        WaterWorks x = MeterTest.withCustomers(1);
        x.pass(10);
        x.install(0, 2, 0);
        x.pass(10);
        x.read(0, 50);
        x.pass(10);
        Checks.is(50, () -> x.used(0, 10, 20));
        for (int day : new int[] {9, 0, -1, LOWEST}) {
            Checks.fails(Checks.NO_SUCH, () -> x.used(0, day, 20));
            Checks.fails(Checks.NO_SUCH, () -> x.used(0, day, day));
        }
        for (int day : new int[] {21, 30, 31, 400, 401, HIGHEST}) {
            Checks.fails(Checks.NO_SUCH, () -> x.used(0, 10, day));
            Checks.fails(Checks.NO_SUCH, () -> x.used(0, day, day));
        }
        Checks.fails(Checks.NO_SUCH, () -> x.used(0, 9, 21));
        Checks.fails(Checks.NO_SUCH, () -> x.used(0, LOWEST, HIGHEST));
    }

    private static void notKnownWithoutReadings() {
        Checks.part("17: NoSuchElementException: without a reading no count is known");
        WaterWorks x = MeterTest.withCustomers(2);
        x.install(1, 1, 0);
        for (int day : new int[] {0, -1, 1, 400, LOWEST, HIGHEST}) {
            Checks.fails(Checks.NO_SUCH, () -> x.used(0, day, day));
        }
        Checks.fails(Checks.NO_SUCH, () -> x.used(0, 0, 1));
    }

    private static void knownOnOneDayAlone() {
        Checks.part("17: with one reading the count is known on its day alone");
        WaterWorks x = MeterTest.withCustomers(1);
        x.pass(399);
        x.install(0, 1, 9);
        x.pass(1);
        Checks.is(0, () -> x.used(0, 399, 399));
        Checks.fails(Checks.NO_SUCH, () -> x.used(0, 398, 399));
        Checks.fails(Checks.NO_SUCH, () -> x.used(0, 399, 400));
    }

    private static void dayBeforeDay() {
        Checks.part("17: IllegalArgumentException: b is less than a");
        WaterWorks x = MeterTest.withCustomers(1);
        x.install(0, 1, 0);
        x.pass(2);
        x.read(0, 5);
        Checks.fails(Checks.ARGUMENT, () -> x.used(0, 1, 0));
        Checks.fails(Checks.ARGUMENT, () -> x.used(0, 2, 0));
        Checks.fails(Checks.ARGUMENT, () -> x.used(0, 2, LOWEST));
        Checks.fails(Checks.ARGUMENT, () -> x.used(0, HIGHEST, LOWEST));
        Checks.is(0, () -> x.used(0, 1, 1));
        Checks.is(3, () -> x.used(0, 1, 2));
    }

    private static void theGreatestCount() {
        Checks.part("17: the greatest count");
        WaterWorks x = MeterTest.withCustomers(1);
        x.install(0, 4, 23);
        for (int i = 1; i < 24; i++) {
            x.pass(1);
            x.read(0, 23 - i);
        }
        Checks.is(23 * 9999, () -> x.used(0, 0, 23));
    }

    private static void overTheWholeYear() {
        Checks.part("17: days 0 to 400");
        WaterWorks x = MeterTest.withCustomers(1);
        x.install(0, 4, 0);
        x.pass(400);
        x.read(0, 9999);
        Checks.is(9999, () -> x.used(0, 0, 400));
        Checks.is(24, () -> x.used(0, 0, 1));
        Checks.is(9974, () -> x.used(0, 0, 399));
        Checks.is(25, () -> x.used(0, 399, 400));
    }
}
