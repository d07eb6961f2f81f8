import java.math.BigDecimal;
import java.math.RoundingMode;
import java.util.ArrayList;
import java.util.HashMap;
import java.util.HashSet;
import java.util.List;
import java.util.Map;
import java.util.NoSuchElementException;
import java.util.Set;
import java.util.TreeMap;
import java.util.TreeSet;
import java.util.function.IntPredicate;

/**
 * The document a second time, in other ways than the program's: places by name, the plan by which
 * border valves have water behind them, counts by a table of days, prices day by day.
 */
final class SlowWorks {
    private static final class Account {
        String at;
        /** Each reading: day, shows, digits, number of the meter. */
        final List<int[]> readings = new ArrayList<>();
        final List<Integer> billDays = new ArrayList<>();
        final List<Long> billWorth = new ArrayList<>();
        long paid;
    }

    private final List<String> nodes = new ArrayList<>();
    private final List<int[]> pipes = new ArrayList<>();
    private final Set<String> sources = new HashSet<>();
    private final Set<Integer> shut = new HashSet<>();
    private final Set<Integer> stuck = new HashSet<>();
    private final List<Account> accounts = new ArrayList<>();
    private final TreeMap<Integer, Long> tariffs = new TreeMap<>();
    private int today;

    int node() {
        demand(nodes.size() < 12, new IllegalStateException());
        nodes.add("node " + nodes.size());
        return nodes.size() - 1;
    }

    int pipe(int a, int b, int valves) {
        within(a, nodes.size());
        within(b, nodes.size());
        demand(a != b && (valves & ~3) == 0, new IllegalArgumentException());
        demand(pipes.size() < 16, new IllegalStateException());
        pipes.add(new int[] {a, b, valves});
        return pipes.size() - 1;
    }

    boolean source(int node, boolean is) {
        within(node, nodes.size());
        return is ? !sources.add(nodes.get(node)) : sources.remove(nodes.get(node));
    }

    int customer(int node) {
        within(node, nodes.size());
        demand(accounts.size() < 10, new IllegalStateException());
        Account account = new Account();
        account.at = nodes.get(node);
        accounts.add(account);
        return accounts.size() - 1;
    }

    boolean turn(int pipe, int end, boolean open) {
        int valve = valve(pipe, end);
        demand(!stuck.contains(valve), new IllegalStateException());
        return open ? shut.remove(valve) : shut.add(valve);
    }

    boolean stick(int pipe, int end, boolean is) {
        int valve = valve(pipe, end);
        return is ? stuck.add(valve) : stuck.remove(valve);
    }

    boolean fed(int customer) {
        return fedNow(new HashSet<>()).contains(account(customer).at);
    }

    int shutOff(int pipe) {
        within(pipe, pipes.size());
        Set<Integer> plan = planFor(pipe);
        return plan == null ? -1 : plan.size();
    }

    int plan(int pipe, int i) {
        within(pipe, pipes.size());
        Set<Integer> plan = planFor(pipe);
        if (plan == null || i < 0 || i >= plan.size()) {
            return -1;
        }
        return new ArrayList<>(plan).get(i);
    }

    int dry(int pipe) {
        within(pipe, pipes.size());
        Set<Integer> plan = planFor(pipe);
        int dry = 0;
        for (int i = 0; i < accounts.size() && plan != null; i++) {
            String at = accounts.get(i).at;
            if (fedNow(new HashSet<>()).contains(at) && !fedNow(plan).contains(at)) {
                dry += 1 << i;
            }
        }
        return dry;
    }

    int carryOut(int pipe) {
        int valves = shutOff(pipe);
        if (valves > 0) {
            shut.addAll(planFor(pipe));
        }
        return valves;
    }

    int pass(int days) {
        demand(days >= 1 && days <= 400 && today + days <= 400, new IllegalArgumentException());
        today += days;
        return today;
    }

    int install(int customer, int digits, int shows) {
        Account account = account(customer);
        demand(digits >= 1 && digits <= 4, new IllegalArgumentException());
        demand(canShow(digits, shows), new IllegalArgumentException());
        List<int[]> readings = account.readings;
        demand(readings.size() < 24, new IllegalStateException());
        int meter = 0;
        if (!readings.isEmpty()) {
            int[] last = readings.get(readings.size() - 1);
            boolean firstOfItsMeter = readings.size() == 1 || readings.get(readings.size() - 2)[3] != last[3];
            demand(last[0] != today || !firstOfItsMeter, new IllegalStateException());
            meter = last[3] + 1;
        }
        readings.add(new int[] {today, shows, digits, meter});
        return readings.size();
    }

    int read(int customer, int shows) {
        List<int[]> readings = account(customer).readings;
        demand(!readings.isEmpty() && readings.size() < 24, new IllegalStateException());
        int[] last = readings.get(readings.size() - 1);
        demand(last[0] < today, new IllegalStateException());
        demand(canShow(last[2], shows), new IllegalArgumentException());
        readings.add(new int[] {today, shows, last[2], last[3]});
        return readings.size();
    }

    int amend(int customer, int i, int shows) {
        List<int[]> readings = account(customer).readings;
        demand(i >= 0 && i < readings.size(), new NoSuchElementException());
        demand(canShow(readings.get(i)[2], shows), new IllegalArgumentException());
        int before = readings.get(i)[1];
        readings.get(i)[1] = shows;
        return before;
    }

    int used(int customer, int a, int b) {
        Account account = account(customer);
        demand(a <= b, new IllegalArgumentException());
        Map<Integer, Integer> counts = counts(account);
        demand(counts.containsKey(a) && counts.containsKey(b), new NoSuchElementException());
        return counts.get(b) - counts.get(a);
    }

    int tariff(int day, long numbers) {
        demand(day >= 0 && day <= 400, new IllegalArgumentException());
        demand(numbers >= 0 && numbers < 1L << 50, new IllegalArgumentException());
        demand(number(numbers, 4) <= 1000, new IllegalArgumentException());
        demand(tariffs.containsKey(day) || tariffs.size() < 8, new IllegalStateException());
        tariffs.put(day, numbers);
        return tariffs.size();
    }

    long bill(int customer, int day) {
        Account account = account(customer);
        demand(!account.readings.isEmpty(), new NoSuchElementException());
        int bills = account.billDays.size();
        demand(day > begin(account, bills), new IllegalArgumentException());
        demand(bills < 6, new IllegalStateException());
        long price = price(account, begin(account, bills), day);
        account.billDays.add(day);
        account.billWorth.add(price);
        return price;
    }

    long correct(int customer) {
        Account account = account(customer);
        long more = 0;
        for (int i = 0; i < account.billDays.size(); i++) {
            long price = price(account, begin(account, i), account.billDays.get(i));
            more += price - account.billWorth.set(i, price);
        }
        return more;
    }

    long pay(int customer, int cents) {
        Account account = account(customer);
        demand(cents >= 0, new IllegalArgumentException());
        account.paid += cents;
        long owes = -account.paid;
        for (long worth : account.billWorth) {
            owes += worth;
        }
        return owes;
    }

    private static void demand(boolean holds, RuntimeException otherwise) {
        if (!holds) {
            throw otherwise;
        }
    }

    private static void within(int number, int size) {
        demand(number >= 0 && number < size, new IndexOutOfBoundsException());
    }

    private Account account(int customer) {
        within(customer, accounts.size());
        return accounts.get(customer);
    }

    private int valve(int pipe, int end) {
        within(pipe, pipes.size());
        within(end, 2);
        demand(isValve(2 * pipe + end), new NoSuchElementException());
        return 2 * pipe + end;
    }

    private boolean isValve(int end) {
        return (pipes.get(end / 2)[2] & 1 + end % 2) != 0;
    }

    private String nodeAt(int end) {
        return nodes.get(pipes.get(end / 2)[end % 2]);
    }

    private static String middleAt(int end) {
        return "middle " + end / 2;
    }

    private void walk(String place, IntPredicate goesThrough, Set<String> seen) {
        if (!seen.add(place)) {
            return;
        }
        for (int end = 0; end < 2 * pipes.size(); end++) {
            if (!goesThrough.test(end)) {
                continue;
            }
            if (nodeAt(end).equals(place)) {
                walk(middleAt(end), goesThrough, seen);
            } else if (middleAt(end).equals(place)) {
                walk(nodeAt(end), goesThrough, seen);
            }
        }
    }

    private Set<String> fedNow(Set<Integer> shutToo) {
        Set<String> fed = new HashSet<>();
        for (String source : sources) {
            walk(source, end -> !isValve(end) || !shut.contains(end) && !shutToo.contains(end), fed);
        }
        return fed;
    }

    /** The plan, or null when there is none. */
    private Set<Integer> planFor(int pipe) {
        Set<String> reach = new HashSet<>();
        walk(middleAt(2 * pipe), end -> !isValve(end) || stuck.contains(end) && !shut.contains(end), reach);
        for (String source : sources) {
            if (reach.contains(source)) {
                return null;
            }
        }
        Set<Integer> border = new TreeSet<>();
        for (int end = 0; end < 2 * pipes.size(); end++) {
            boolean moves = isValve(end) && !shut.contains(end) && !stuck.contains(end);
            if (moves && reach.contains(nodeAt(end)) != reach.contains(middleAt(end))) {
                border.add(end);
            }
        }
        // Opening a valve lets water in just when there is water at its outer side.
        Set<String> fed = fedNow(border);
        Set<Integer> plan = new TreeSet<>(border);
        plan.removeIf(end -> !fed.contains(nodeAt(end)) && !fed.contains(middleAt(end)));
        return plan;
    }

    private static boolean canShow(int digits, int shows) {
        return shows >= 0 && Integer.toString(shows).length() <= digits;
    }

    /** The counts of all days on which they are known. */
    private static Map<Integer, Integer> counts(Account account) {
        Map<Integer, Integer> counts = new HashMap<>();
        int count = 0;
        int[] before = null;
        for (int[] reading : account.readings) {
            int use = 0;
            if (before != null && before[3] == reading[3]) {
                int size = BigDecimal.TEN.pow(reading[2]).intValue();
                use = Math.floorMod(reading[1] - before[1], size);
            }
            for (int day = before == null ? reading[0] : before[0] + 1; day < reading[0]; day++) {
                BigDecimal part = BigDecimal.valueOf((long) use * (day - before[0]));
                BigDecimal days = BigDecimal.valueOf(reading[0] - before[0]);
                counts.put(day, count + part.divide(days, 0, RoundingMode.FLOOR).intValue());
            }
            count += use;
            counts.put(reading[0], count);
            before = reading;
        }
        return counts;
    }

    private static int begin(Account account, int bill) {
        return bill == 0 ? account.readings.get(0)[0] : account.billDays.get(bill - 1);
    }

    private static long number(long numbers, int which) {
        return (numbers >> 10 * which) % 1024;
    }

    private long price(Account account, int from, int to) {
        Map<Integer, Integer> counts = counts(account);
        demand(counts.containsKey(from) && counts.containsKey(to), new NoSuchElementException());
        demand(tariffs.floorKey(from) != null, new NoSuchElementException());
        BigDecimal price = BigDecimal.ZERO;
        int begin = from;
        for (int day = from + 1; day <= to; day++) {
            if (day == to || tariffs.containsKey(day)) {
                long numbers = tariffs.floorEntry(begin).getValue();
                price = price.add(partPrice(numbers, day - begin, counts.get(day) - counts.get(begin)));
                begin = day;
            }
        }
        return price.longValueExact();
    }

    private static BigDecimal partPrice(long numbers, int days, int units) {
        BigDecimal water = BigDecimal.ZERO;
        for (int unit = 1; unit <= units; unit++) {
            // The unit is a cheap one when the limit for these days is not below it.
            boolean cheap = 30L * unit <= number(numbers, 0) * days;
            water = water.add(BigDecimal.valueOf(number(numbers, cheap ? 1 : 2)));
        }
        BigDecimal share = BigDecimal.valueOf(number(numbers, 4), 3);
        BigDecimal sewage = water.multiply(share).setScale(0, RoundingMode.HALF_UP);
        return BigDecimal.valueOf(days * number(numbers, 3)).add(water).add(sewage);
    }
}
