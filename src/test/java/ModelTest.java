import java.util.Random;

/** Runs of 512 chosen calls at most, good and wrong ones, each answered as SlowWorks answers it. */
final class ModelTest {
    private static final int RUNS = 600;
    private static final int CALLS = 512;
    private static final int[] ODD = {Integer.MIN_VALUE, Integer.MAX_VALUE, -2, -1, 16, 24, 31, 32, 400, 401};

    private final Random random;
    private final WaterWorks x = new WaterWorks();
    private final SlowWorks y = new SlowWorks();
    private int calls = 0;
    private int nodes = 0;
    private int pipes = 0;
    private int customers = 0;
    private int today = 0;
    /** Runs differ in what they are about, in how wet and how full they are, and how fast days pass. */
    private final boolean aboutNet;
    private final int wet;
    private final int longest;

    private ModelTest(int seed) {
        random = new Random(seed);
        aboutNet = seed % 2 == 0;
        wet = 1 + random.nextInt(6);
        longest = 1 + random.nextInt(40);
    }

    public static void main(String[] args) {
        for (int seed = 0; seed < RUNS; seed++) {
            Checks.part("run " + seed);
            new ModelTest(seed).run();
        }
        Checks.end();
    }

    private void run() {
        begin();
        while (calls < CALLS) {
            int kind = random.nextInt(10) == 0 ? random.nextInt(20) : -1;
            if (kind < 0 ? aboutNet : kind < 10) {
                askNet(kind < 0 ? usualOfNet() : kind);
            } else {
                askOffice(kind < 0 ? random.nextInt(10) : kind - 10);
            }
        }
    }

    /** Some nodes, pipes, sources and customers, so that there is something to ask about. */
    private void begin() {
        int most = aboutNet ? 3 + random.nextInt(10) : 2;
        for (int i = 0; i < most; i++) {
            askNet(0);
        }
        int mostPipes = random.nextInt(most + 5);
        for (int i = 0; i < mostPipes; i++) {
            askNet(1);
        }
        askNet(2);
        for (int i = random.nextInt(aboutNet ? 10 : 3); i >= 0; i--) {
            askNet(3);
        }
    }

    /** Calls after the beginning; sources among them, since valves that are shut leave a net dry. */
    private int usualOfNet() {
        return random.nextInt(12) == 0 ? 2 : 4 + random.nextInt(6);
    }

    private void askNet(int kind) {
        int node = below(nodes);
        int pipe = below(pipes);
        int end = below(2);
        boolean is = random.nextInt(6) < wet;
        switch (kind) {
            case 0 -> nodes += made(same(() -> x.node(), () -> y.node()));
            case 1 -> askPipe(node);
            case 2 -> same(() -> x.source(node, is), () -> y.source(node, is));
            case 3 -> customers += made(same(() -> x.customer(node), () -> y.customer(node)));
            case 4 -> same(() -> x.turn(pipe, end, is), () -> y.turn(pipe, end, is));
            case 5 -> same(() -> x.stick(pipe, end, !is), () -> y.stick(pipe, end, !is));
            case 6 -> askFed();
            case 7 -> askPlan(pipe);
            case 8 -> same(() -> x.dry(pipe), () -> y.dry(pipe));
            default -> carryOutAndBack(pipe);
        }
    }

    private void askPipe(int a) {
        int b = below(nodes);
        int valves = random.nextBoolean() ? below(4) : 3;
        pipes += made(same(() -> x.pipe(a, b, valves), () -> y.pipe(a, b, valves)));
    }

    private void askFed() {
        int customer = below(customers);
        same(() -> x.fed(customer), () -> y.fed(customer));
    }

    private void askPlan(int pipe) {
        int i = below(4);
        same(() -> x.shutOff(pipe), () -> y.shutOff(pipe));
        same(() -> x.plan(pipe, i), () -> y.plan(pipe, i));
    }

    /** Valves that were shut are mostly opened again, so that the net does not fall dry for good. */
    private void carryOutAndBack(int pipe) {
        same(() -> x.carryOut(pipe), () -> y.carryOut(pipe));
        for (int i = 0; i < 4; i++) {
            int other = below(pipes);
            int end = below(2);
            same(() -> x.turn(other, end, true), () -> y.turn(other, end, true));
        }
    }

    private void askOffice(int kind) {
        int customer = random.nextInt(3) == 0 ? below(customers) : 0;
        int shows = random.nextInt(12) == 0 ? below(10001) : random.nextInt(10);
        int a = below(today + 2);
        int b = random.nextInt(6) == 0 ? below(today + 2) : a + random.nextInt(30);
        switch (kind) {
            case 0 -> askPass();
            case 1 -> askMeter(customer);
            case 2, 3 -> same(() -> x.read(customer, shows), () -> y.read(customer, shows));
            case 4 -> {
                int i = below(random.nextBoolean() ? 24 : 6);
                same(() -> x.amend(customer, i, shows), () -> y.amend(customer, i, shows));
            }
            case 5 -> same(() -> x.used(customer, a, b), () -> y.used(customer, a, b));
            case 6 -> askTariff();
            case 7 -> same(() -> x.bill(customer, b), () -> y.bill(customer, b));
            case 8 -> same(() -> x.correct(customer), () -> y.correct(customer));
            default -> {
                int cents = random.nextInt(3) == 0 ? below(5000) : 0;
                same(() -> x.pay(customer, cents), () -> y.pay(customer, cents));
            }
        }
    }

    private void askPass() {
        int days = 1 + below(longest);
        Object answer = same(() -> x.pass(days), () -> y.pass(days));
        today = answer instanceof Long ? (int) (long) (Long) answer : today;
    }

    private void askMeter(int customer) {
        int digits = 1 + below(4);
        int shows = random.nextInt(digits > 3 ? 10000 : 10);
        int read = random.nextInt(10);
        if (random.nextInt(3) == 0) {
            same(() -> x.read(customer, read), () -> y.read(customer, read));
        }
        same(() -> x.install(customer, digits, shows), () -> y.install(customer, digits, shows));
    }

    private void askTariff() {
        int day = random.nextInt(4) == 0 ? 0 : below(Math.min(400, today + 20));
        long numbers = numbers();
        same(() -> x.tariff(day, numbers), () -> y.tariff(day, numbers));
    }

    private long numbers() {
        if (random.nextInt(10) == 0) {
            return random.nextBoolean() ? random.nextLong() >> random.nextInt(20) : 1L << random.nextInt(64);
        }
        long numbers = random.nextInt(1001);
        for (int i = 0; i < 4; i++) {
            numbers = numbers << 10 | random.nextInt(random.nextBoolean() ? 20 : 1024);
        }
        return numbers;
    }

    /** Mostly from 0 on and below a bound, sometimes at the bound or far from it. */
    private int below(int bound) {
        int odd = random.nextInt(60);
        if (odd == 0) {
            return ODD[random.nextInt(ODD.length)];
        }
        return odd == 1 || bound == 0 ? bound : random.nextInt(bound);
    }

    private static int made(Object answer) {
        return answer instanceof Long ? 1 : 0;
    }

    /** Answers what the model does. */
    private Object same(Checks.Call program, Checks.Call model) {
        calls++;
        Object due = calls > CALLS ? null : Checks.answerOf(model);
        if (due != null) {
            Checks.note(due, Checks.answerOf(program));
        }
        return due;
    }
}
