import java.util.NoSuchElementException;
import java.util.Random;

/** Random texts and calls, always the same ones, on the class and on the model: all answers must be alike. */
public final class RandomRunsTest {
    private static int wrong = 0;
    private static String log = "";

    public static void main(String[] args) {
        int runs = args.length > 0 ? Integer.parseInt(args[0]) : 3000;
        long seed = args.length > 1 ? Long.parseLong(args[1]) : 1;
        int accepted = 0;
        for (int run = 0; run < runs && wrong == 0; run++) {
            accepted += oneRun(new Random(seed * 1000003 + run)) ? 1 : 0;
        }
        if (accepted < runs / 4) {
            wrong++;
            System.out.println("only " + accepted + " of " + runs + " texts were stations: the runs tell too little");
        }
        System.out.println(wrong == 0 ? "all answers are as due" : wrong + " answers are not as due");
        if (wrong != 0) {
            System.exit(1);
        }
    }

    private static void due(String call, int got, int want) {
        if (got != want) {
            wrong++;
            System.out.println(log + call + " answered " + got + ", due is " + want);
        }
    }

    private static boolean oneRun(Random random) {
        StationStarter starter = new StationStarter();
        Model model = new Model();
        log = "";
        boolean stands = read(random, starter, model);
        int calls = 5 + random.nextInt(25);
        for (int i = 0; i < calls && wrong == 0; i++) {
            call(random, starter, model);
            compare(starter, model);
        }
        return stands;
    }

    private static boolean read(Random random, StationStarter starter, Model model) {
        String text = new RandomText(random).make();
        if (random.nextInt(4) == 0) {
            text = RandomText.spoil(text, random);
        }
        log += text + "\n";
        int signs = Feeder.feed(starter, text);
        due("feed", signs, model.feed(text));
        int fault = model.station();
        due("station()", starter.station(), fault);
        return fault == 0;
    }

    private static void call(Random random, StationStarter starter, Model model) {
        int what = random.nextInt(26);
        int u = random.nextInt(model.st.units.size() + 2) - 1;
        int d = random.nextInt(model.st.demands.size() + 2) - 1;
        int n = random.nextInt(3) == 0 ? random.nextInt(30) : random.nextInt(10) == 0 ? 5000 : random.nextInt(400);
        log += "what " + what + " u " + u + " d " + d + " n " + n + "\n";
        if (what < 11) {
            due("demand", starter.demand(d, n), model.demand(d, n));
        } else if (what < 15) {
            due("foresee", starter.foresee(d, n), model.foresee(d, n));
        } else if (what < 18) {
            due("heal", starter.heal(u), model.heal(u));
        } else if (what < 21) {
            due("beat", starter.beat(n / 20), model.beat(n / 20));
        } else if (what < 24) {
            int edition = n % 3;
            due("plan", starter.plan(u, edition) ? 1 : 0, model.plan(u, edition) ? 1 : 0);
        } else if (what == 24) {
            if (n % 2 == 0) {
                starter.clear();
                model.clear();
            } else if (n % 3 == 0) {
                read(random, starter, model);
            }
        } else {
            due("close", starter.close(), model.close());
        }
    }

    private static void compare(StationStarter s, Model m) {
        for (int w = -1; w < 15; w++) {
            due("count(" + w + ")", s.count(w), m.count(w));
        }
        for (int i = -1; i < 3; i++) {
            due("ended", s.ended(i), m.ended(i));
        }
        int units = m.st.units.size();
        for (int u = -1; u <= units; u++) {
            for (int w = -1; w < 9; w++) {
                Integer want = m.unit(u, w);
                due("unit(" + u + ", " + w + ")", unitOf(s, u, w), want == null ? Integer.MIN_VALUE : want);
                Integer now = m.read(u, w);
                due("read(" + u + ", " + w + ")", readOf(s, u, w), now == null ? Integer.MIN_VALUE : now);
                due("need(" + u + ", " + w + ")", s.need(u, w), m.need(u, w));
                due("leans(" + u + ", " + w + ")", s.leans(u, w), m.leans(u, w));
                due("foreseen", s.foreseen(w), m.foreseen(w));
            }
            for (int i = -1; i < 4; i++) {
                due("cause(" + u + ", " + i + ")", s.cause(u, i), m.cause(u, i));
            }
        }
        for (int d = -1; d <= m.st.devs.size(); d++) {
            for (int w = -1; w < 3; w++) {
                Integer want = m.device(d, w);
                due("device(" + d + ", " + w + ")", deviceOf(s, d, w), want == null ? Integer.MIN_VALUE : want);
            }
        }
        compareBooks(s, m);
    }

    private static void compareBooks(StationStarter s, Model m) {
        for (int w = -1; w < 5; w++) {
            for (int i = -1; i <= m.ups.size(); i++) {
                due("up(" + i + ", " + w + ")", s.up(i, w), Model.row(m.ups, 1000, i, w));
            }
            for (int i = -1; i <= m.halves.size(); i++) {
                due("half(" + i + ", " + w + ")", s.half(i, w), Model.row(m.halves, 200, i, w));
            }
            for (int i = -1; i <= m.orders.size(); i++) {
                due("order(" + i + ", " + w + ")", s.order(i, w), Model.row(m.orders, 200, i, w));
            }
            for (int i = -1; i <= m.closings.size(); i++) {
                due("closed(" + i + ", " + w + ")", s.closed(i, w), Model.row(m.closings, 1000, i, w));
            }
        }
    }

    private static int unitOf(StationStarter s, int u, int w) {
        try {
            return s.unit(u, w);
        } catch (NoSuchElementException e) {
            return Integer.MIN_VALUE;
        }
    }

    private static int readOf(StationStarter s, int u, int w) {
        try {
            return s.read(u, w);
        } catch (NoSuchElementException e) {
            return Integer.MIN_VALUE;
        }
    }

    private static int deviceOf(StationStarter s, int d, int w) {
        try {
            return s.device(d, w);
        } catch (NoSuchElementException e) {
            return Integer.MIN_VALUE;
        }
    }
}
