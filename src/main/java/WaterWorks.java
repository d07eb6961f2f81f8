import java.util.NoSuchElementException;

/** A water works' office: valves and who is dry, meters and their use, tariffs and bills. */
public final class WaterWorks {
    public static final int NONE = -1;

    private static final int MOST_NODES = 12;
    private static final int MOST_PIPES = 16;
    private static final int MOST_CUSTOMERS = 10;
    private static final int MOST_READINGS = 24;
    private static final int MOST_DIGITS = 4;
    private static final int MOST_TARIFFS = 8;
    private static final int MOST_BILLS = 6;
    private static final int LAST_DAY = 400;
    /** Counts and prices are never below 0, so that this can stand for one that is not known. */
    private static final int NOT_KNOWN = -1;

    private final Net net;
    private final Tariffs tariffs;
    private final Customer[] customers;
    private int customerCount;
    private int today;

    public WaterWorks() {
        net = new Net();
        tariffs = new Tariffs();
        customers = new Customer[MOST_CUSTOMERS];
        customerCount = 0;
        today = 0;
    }

    public int node() throws IllegalStateException {
        if (net.nodeCount == MOST_NODES) {
            throw new IllegalStateException();
        }
        return net.addNode();
    }

    public int pipe(int a, int b, int valves)
            throws IndexOutOfBoundsException, IllegalArgumentException, IllegalStateException {
        needNode(a);
        needNode(b);
        if (a == b || valves < 0 || valves > 3) {
            throw new IllegalArgumentException();
        }
        if (net.pipeCount == MOST_PIPES) {
            throw new IllegalStateException();
        }
        return net.addPipe(a, b, valves);
    }

    public boolean source(int node, boolean is) throws IndexOutOfBoundsException {
        needNode(node);
        return net.setSource(node, is);
    }

    public int customer(int node) throws IndexOutOfBoundsException, IllegalStateException {
        needNode(node);
        if (customerCount == MOST_CUSTOMERS) {
            throw new IllegalStateException();
        }
        customers[customerCount] = new Customer(node);
        customerCount++;
        return customerCount - 1;
    }

    public boolean turn(int pipe, int end, boolean open)
            throws IndexOutOfBoundsException, NoSuchElementException, IllegalStateException {
        int valve = valveAt(pipe, end);
        if (net.isStuck(valve)) {
            throw new IllegalStateException();
        }
        return net.setShut(valve, !open);
    }

    public boolean stick(int pipe, int end, boolean is)
            throws IndexOutOfBoundsException, NoSuchElementException {
        return net.setStuck(valveAt(pipe, end), is);
    }

    public boolean fed(int customer) throws IndexOutOfBoundsException {
        return Net.has(net.fedPlaces(0), customerAt(customer).node);
    }

    public int shutOff(int pipe) throws IndexOutOfBoundsException {
        needPipe(pipe);
        return net.hasPlan(pipe) ? Integer.bitCount(net.planValves(pipe)) : NONE;
    }

    public int plan(int pipe, int i) throws IndexOutOfBoundsException {
        needPipe(pipe);
        return net.hasPlan(pipe) ? Net.member(net.planValves(pipe), i) : NONE;
    }

    public int dry(int pipe) throws IndexOutOfBoundsException {
        needPipe(pipe);
        if (!net.hasPlan(pipe)) {
            return 0;
        }
        int lost = net.fedPlaces(0) & ~net.fedPlaces(net.planValves(pipe));
        int dry = 0;
        for (int i = 0; i < customerCount; i++) {
            if (Net.has(lost, customers[i].node)) {
                dry |= 1 << i;
            }
        }
        return dry;
    }

    public int carryOut(int pipe) throws IndexOutOfBoundsException {
        needPipe(pipe);
        if (!net.hasPlan(pipe)) {
            return NONE;
        }
        int valves = net.planValves(pipe);
        net.shutAll(valves);
        return Integer.bitCount(valves);
    }

    public int pass(int days) throws IllegalArgumentException {
        if (days < 1 || days > LAST_DAY - today) {
            throw new IllegalArgumentException();
        }
        today += days;
        return today;
    }

    public int install(int customer, int digits, int shows)
            throws IndexOutOfBoundsException, IllegalArgumentException, IllegalStateException {
        Customer of = customerAt(customer);
        if (digits < 1 || digits > MOST_DIGITS || !isBelow(shows, numbersOf(digits))) {
            throw new IllegalArgumentException();
        }
        if (of.readingCount == MOST_READINGS || of.gotMeterOn(today)) {
            throw new IllegalStateException();
        }
        return of.addMeter(today, numbersOf(digits), shows);
    }

    public int read(int customer, int shows)
            throws IndexOutOfBoundsException, IllegalStateException, IllegalArgumentException {
        Customer of = customerAt(customer);
        if (of.readingCount == 0 || of.readingCount == MOST_READINGS || of.lastDay() == today) {
            throw new IllegalStateException();
        }
        if (!isBelow(shows, of.numbers[of.readingCount - 1])) {
            throw new IllegalArgumentException();
        }
        return of.addReading(today, shows);
    }

    public int amend(int customer, int i, int shows)
            throws IndexOutOfBoundsException, NoSuchElementException, IllegalArgumentException {
        Customer of = customerAt(customer);
        if (!isBelow(i, of.readingCount)) {
            throw new NoSuchElementException();
        }
        if (!isBelow(shows, of.numbers[i])) {
            throw new IllegalArgumentException();
        }
        int before = of.shown[i];
        of.shown[i] = shows;
        return before;
    }

    public int used(int customer, int a, int b)
            throws IndexOutOfBoundsException, IllegalArgumentException, NoSuchElementException {
        Customer of = customerAt(customer);
        if (b < a) {
            throw new IllegalArgumentException();
        }
        int first = of.countOn(a);
        int second = of.countOn(b);
        if (first == NOT_KNOWN || second == NOT_KNOWN) {
            throw new NoSuchElementException();
        }
        return second - first;
    }

    public int tariff(int day, long numbers) throws IllegalArgumentException, IllegalStateException {
        if (day < 0 || day > LAST_DAY || !Tariffs.isGood(numbers)) {
            throw new IllegalArgumentException();
        }
        if (tariffs.count == MOST_TARIFFS && !tariffs.hasOneOf(day)) {
            throw new IllegalStateException();
        }
        return tariffs.put(day, numbers);
    }

    public long bill(int customer, int day) throws IndexOutOfBoundsException, IllegalArgumentException,
            IllegalStateException, NoSuchElementException {
        Customer of = customerAt(customer);
        // Without a reading there is no day from which a bill would be, so this goes before the rest.
        if (of.readingCount == 0) {
            throw new NoSuchElementException();
        }
        int from = of.billBegin(of.billCount);
        if (day <= from) {
            throw new IllegalArgumentException();
        }
        if (of.billCount == MOST_BILLS) {
            throw new IllegalStateException();
        }
        long price = of.price(from, day, tariffs);
        if (price == NOT_KNOWN) {
            throw new NoSuchElementException();
        }
        of.addBill(day, price);
        return price;
    }

    public long correct(int customer) throws IndexOutOfBoundsException, NoSuchElementException {
        Customer of = customerAt(customer);
        long right = of.rightTotal(tariffs);
        if (right == NOT_KNOWN) {
            throw new NoSuchElementException();
        }
        long more = right - of.billed;
        of.billed = right;
        return more;
    }

    public long pay(int customer, int cents) throws IndexOutOfBoundsException, IllegalArgumentException {
        Customer of = customerAt(customer);
        if (cents < 0) {
            throw new IllegalArgumentException();
        }
        of.paid += cents;
        return of.billed - of.paid;
    }

    private void needNode(int node) {
        if (!isBelow(node, net.nodeCount)) {
            throw new IndexOutOfBoundsException();
        }
    }

    private void needPipe(int pipe) {
        if (!isBelow(pipe, net.pipeCount)) {
            throw new IndexOutOfBoundsException();
        }
    }

    private Customer customerAt(int customer) {
        if (!isBelow(customer, customerCount)) {
            throw new IndexOutOfBoundsException();
        }
        return customers[customer];
    }

    private int valveAt(int pipe, int end) {
        needPipe(pipe);
        if (!isBelow(end, 2)) {
            throw new IndexOutOfBoundsException();
        }
        int valve = 2 * pipe + end;
        if (!net.hasValve(valve)) {
            throw new NoSuchElementException();
        }
        return valve;
    }

    private static boolean isBelow(int number, int bound) {
        return number >= 0 && number < bound;
    }

    /** How many numbers a meter of so many digits can show. */
    private static int numbersOf(int digits) {
        int numbers = 1;
        for (int i = 0; i < digits; i++) {
            numbers *= 10;
        }
        return numbers;
    }

    /**
     * Nodes, pipes and valves. Sets are the bits of an int. In a set of PLACES, bit n is node n and
     * bit MOST_NODES + p the middle of pipe p; in a set of ENDS, bit 2p + e is end e of pipe p, which
     * is the number of the valve there, if there is one.
     */
    private static final class Net {
        final int[] nodeOf;
        int nodeCount;
        int pipeCount;
        int sources;
        int valves;
        int shut;
        int stuck;

        Net() {
            nodeOf = new int[2 * MOST_PIPES];
        }

        static boolean has(int set, int bit) {
            return (set >>> bit & 1) == 1;
        }

        static int with(int set, int bit, boolean is) {
            return is ? set | 1 << bit : set & ~(1 << bit);
        }

        /** The i-th number in a set, by rising numbers; NONE when there are fewer. */
        static int member(int set, int i) {
            int before = 0;
            for (int bit = 0; bit < 2 * MOST_PIPES; bit++) {
                if (has(set, bit)) {
                    if (before == i) {
                        return bit;
                    }
                    before++;
                }
            }
            return NONE;
        }

        int addNode() {
            nodeCount++;
            return nodeCount - 1;
        }

        int addPipe(int a, int b, int valvesOfPipe) {
            nodeOf[2 * pipeCount] = a;
            nodeOf[2 * pipeCount + 1] = b;
            valves |= valvesOfPipe << 2 * pipeCount;
            pipeCount++;
            return pipeCount - 1;
        }

        boolean setSource(int node, boolean is) {
            boolean was = has(sources, node);
            sources = with(sources, node, is);
            return was;
        }

        boolean hasValve(int end) {
            return has(valves, end);
        }

        boolean isStuck(int valve) {
            return has(stuck, valve);
        }

        boolean setShut(int valve, boolean is) {
            boolean otherwise = has(shut, valve) != is;
            shut = with(shut, valve, is);
            return otherwise;
        }

        boolean setStuck(int valve, boolean is) {
            boolean otherwise = has(stuck, valve) != is;
            stuck = with(stuck, valve, is);
            return otherwise;
        }

        void shutAll(int set) {
            shut |= set;
        }

        /** The places that are fed when, with those shut as it is, some more valves are shut. */
        int fedPlaces(int shutToo) {
            return spread(sources, ~(shut | shutToo));
        }

        boolean hasPlan(int pipe) {
            return (reach(pipe) & sources) == 0;
        }

        /** The valves of the plan for a pipe for which there is one. */
        int planValves(int pipe) {
            int kept = border(reach(pipe));
            for (int valve = 0; valve < 2 * pipeCount; valve++) {
                int others = with(kept, valve, false);
                if (others != kept && !has(fedPlaces(others), middle(pipe))) {
                    kept = others;
                }
            }
            return kept;
        }

        private int reach(int pipe) {
            return spread(1 << middle(pipe), ~valves | stuck & ~shut);
        }

        private int border(int reach) {
            int movable = valves & ~shut & ~stuck;
            int border = 0;
            for (int valve = 0; valve < 2 * pipeCount; valve++) {
                int inside = reach & sides(valve);
                if (has(movable, valve) && inside != 0 && inside != sides(valve)) {
                    border |= 1 << valve;
                }
            }
            return border;
        }

        /** All places to which ways through a set of ends lead from a set of places. */
        private int spread(int places, int ends) {
            int got = places;
            // Each round but the last one adds a place, so there can't be more rounds than places.
            for (int round = 0; round < MOST_NODES + MOST_PIPES; round++) {
                int before = got;
                for (int end = 0; end < 2 * pipeCount; end++) {
                    if (has(ends, end) && (got & sides(end)) != 0) {
                        got |= sides(end);
                    }
                }
                if (got == before) {
                    return got;
                }
            }
            return got;
        }

        /** The two places that meet at an end: the node and the middle. */
        private int sides(int end) {
            return 1 << nodeOf[end] | 1 << middle(end / 2);
        }

        private static int middle(int pipe) {
            return MOST_NODES + pipe;
        }
    }

    /** Tariffs, by rising days. */
    private static final class Tariffs {
        private static final int FIELD_BITS = 10;
        private static final int FIELDS = 5;
        private static final int LIMIT = 0;
        private static final int LOW = 1;
        private static final int HIGH = 2;
        private static final int BASE = 3;
        private static final int SEWAGE = 4;
        private static final int WHOLE_SHARE = 1000;
        private static final int LIMIT_DAYS = 30;

        final int[] days;
        final long[] numbers;
        int count;

        Tariffs() {
            days = new int[MOST_TARIFFS];
            numbers = new long[MOST_TARIFFS];
        }

        static boolean isGood(long numbers) {
            return numbers >= 0 && numbers >>> FIELD_BITS * FIELDS == 0
                    && field(numbers, SEWAGE) <= WHOLE_SHARE;
        }

        private static long field(long numbers, int field) {
            return numbers >>> FIELD_BITS * field & (1 << FIELD_BITS) - 1;
        }

        /** Which tariff holds on a day; NONE when none does. */
        int holdingOn(int day) {
            int holding = NONE;
            for (int i = 0; i < count; i++) {
                if (days[i] <= day) {
                    holding = i;
                }
            }
            return holding;
        }

        boolean hasOneOf(int day) {
            int holding = holdingOn(day);
            return holding != NONE && days[holding] == day;
        }

        /** Enters a tariff for which there is room; answers how many there are then. */
        int put(int day, long its) {
            boolean isNew = !hasOneOf(day);
            // A new one goes behind the one that held on its day; NONE + 1 is the first place.
            int at = isNew ? holdingOn(day) + 1 : holdingOn(day);
            if (isNew) {
                makeRoom(at);
            }
            days[at] = day;
            numbers[at] = its;
            return count;
        }

        private void makeRoom(int at) {
            for (int i = count; i > at; i--) {
                days[i] = days[i - 1];
                numbers[i] = numbers[i - 1];
            }
            count++;
        }

        /** Where the part that begins under a tariff ends: where the next tariff begins, or before. */
        int partEnd(int tariff, int last) {
            return tariff + 1 < count ? Math.min(days[tariff + 1], last) : last;
        }

        long partPrice(int tariff, int partDays, int units) {
            long its = numbers[tariff];
            long low = Math.min(units, field(its, LIMIT) * partDays / LIMIT_DAYS);
            long water = low * field(its, LOW) + (units - low) * field(its, HIGH);
            // Half of the divisor more, so that the division rounds to the nearest, a half upwards.
            long sewage = (water * field(its, SEWAGE) + WHOLE_SHARE / 2) / WHOLE_SHARE;
            return partDays * field(its, BASE) + water + sewage;
        }
    }

    /** A customer: where it is, what its meters showed, and what was billed and paid. */
    private static final class Customer {
        final int node;
        final int[] days;
        final int[] shown;
        /** How many numbers the meter of a reading can show. */
        final int[] numbers;
        /** Whether a reading is the first one of its meter. */
        final boolean[] isFirst;
        int readingCount;
        final int[] billEnds;
        int billCount;
        long billed;
        long paid;

        Customer(int at) {
            node = at;
            days = new int[MOST_READINGS];
            shown = new int[MOST_READINGS];
            numbers = new int[MOST_READINGS];
            isFirst = new boolean[MOST_READINGS];
            billEnds = new int[MOST_BILLS];
        }

        /** The day of the last reading; NONE when there is none. */
        int lastDay() {
            return readingCount == 0 ? NONE : days[readingCount - 1];
        }

        boolean gotMeterOn(int day) {
            return readingCount > 0 && lastDay() == day && isFirst[readingCount - 1];
        }

        int addMeter(int day, int itsNumbers, int shows) {
            return enter(day, itsNumbers, shows, true);
        }

        /** A reading of the meter that was read last. */
        int addReading(int day, int shows) {
            return enter(day, numbers[readingCount - 1], shows, false);
        }

        private int enter(int day, int itsNumbers, int shows, boolean first) {
            days[readingCount] = day;
            shown[readingCount] = shows;
            numbers[readingCount] = itsNumbers;
            isFirst[readingCount] = first;
            readingCount++;
            return readingCount;
        }

        /** The count on a day, or NOT_KNOWN. */
        int countOn(int day) {
            if (readingCount == 0 || day < days[0] || day > lastDay()) {
                return NOT_KNOWN;
            }
            int count = 0;
            for (int i = 1; i < readingCount; i++) {
                if (days[i] > day) {
                    // Here days[i - 1] <= day < days[i], so the divisor is above 0.
                    return count + useBefore(i) * (day - days[i - 1]) / (days[i] - days[i - 1]);
                }
                count += useBefore(i);
            }
            return count;
        }

        /** The use between a reading (not the first one of all) and the one before it. */
        private int useBefore(int reading) {
            if (isFirst[reading]) {
                return 0;
            }
            int more = shown[reading] - shown[reading - 1];
            return more < 0 ? more + numbers[reading] : more;
        }

        /** The day from which a bill is, or would be, for a customer with a reading. */
        int billBegin(int bill) {
            return bill == 0 ? days[0] : billEnds[bill - 1];
        }

        void addBill(int end, long price) {
            billEnds[billCount] = end;
            billCount++;
            billed += price;
        }

        /** The price from a day up to a later one, or NOT_KNOWN. */
        long price(int from, int to, Tariffs tariffs) {
            int tariff = tariffs.holdingOn(from);
            // With these two counts known, those at the cuts between are.
            if (tariff == NONE || countOn(from) == NOT_KNOWN || countOn(to) == NOT_KNOWN) {
                return NOT_KNOWN;
            }
            long price = 0;
            int begin = from;
            for (int i = tariff; i < tariffs.count && begin < to; i++) {
                int end = tariffs.partEnd(i, to);
                price += tariffs.partPrice(i, end - begin, countOn(end) - countOn(begin));
                begin = end;
            }
            return price;
        }

        /** What all bills are worth by the present readings and tariffs, or NOT_KNOWN. */
        long rightTotal(Tariffs tariffs) {
            long total = 0;
            for (int i = 0; i < billCount; i++) {
                long price = price(billBegin(i), billEnds[i], tariffs);
                if (price == NOT_KNOWN) {
                    return NOT_KNOWN;
                }
                total += price;
            }
            return total;
        }
    }
}
