import java.util.NoSuchElementException;
import java.util.Random;

/** Calls with any arguments, on any tape, up to 512 on an object: nothing is thrown but what the document names. */
public final class WildCallsTest {
    private static int wrong = 0;

    public static void main(String[] args) {
        for (int run = 0; run < 400; run++) {
            Random random = new Random(run * 7919L + 5);
            try {
                oneRun(random);
            } catch (RuntimeException e) {
                wrong++;
                System.out.println("run " + run + " threw " + e);
            }
        }
        System.out.println(wrong == 0 ? "all answers are as due" : wrong + " answers are not as due");
        if (wrong != 0) {
            System.exit(1);
        }
    }

    private static int any(Random random) {
        switch (random.nextInt(6)) {
            case 0:
                return random.nextInt();
            case 1:
                return Integer.MIN_VALUE + random.nextInt(3);
            case 2:
                return Integer.MAX_VALUE - random.nextInt(3);
            default:
                return random.nextInt(30) - 2;
        }
    }

    private static void oneRun(Random random) {
        StationStarter s = new StationStarter();
        int feeds = 0;
        if (random.nextInt(4) > 0) {
            String text = new RandomText(random).make();
            feeds = text.length() / 24 + 2;
            Feeder.station(s, text);
        }
        for (int call = feeds; call < 512; call++) {
            try {
                oneCall(s, random);
            } catch (NoSuchElementException e) {
                continue;
            }
        }
    }

    private static void oneCall(StationStarter s, Random random) {
        int a = any(random);
        int b = any(random);
        switch (random.nextInt(24)) {
            case 0 -> s.feed(random.nextLong(), Feeder.pack("module m { }", 0), random.nextLong());
            case 1 -> within(random.nextInt(9) > 0 || s.station() >= 0, "station");
            case 2 -> s.named(a);
            case 3 -> within(s.demand(a, b) <= 6, "demand");
            case 4 -> within(s.ended(a) <= 21, "ended");
            case 5 -> s.plan(a, b);
            case 6 -> s.clear();
            case 7 -> s.heal(a);
            case 8 -> within(random.nextInt(9) > 0 || s.close() <= 24, "close");
            case 9 -> s.beat(a);
            case 10 -> within(s.foresee(a, b) <= 24, "foresee");
            case 11 -> s.foreseen(a);
            case 12 -> s.cause(a, b);
            case 13 -> s.need(a, b);
            case 14 -> s.leans(a, b);
            case 15 -> s.up(a, b);
            case 16 -> s.half(a, b);
            case 17 -> s.order(a, b);
            case 18 -> s.closed(a, b);
            case 19 -> s.count(a);
            case 20 -> s.unit(a, b);
            case 21 -> s.read(a, b);
            case 22 -> s.device(a, b);
            default -> within(s.demand(random.nextInt(5), 1 + random.nextInt(5000)) <= 6, "demand");
        }
    }

    private static void within(boolean good, String call) {
        if (!good) {
            wrong++;
            System.out.println(call + " answered what it never may");
        }
    }
}
