/** Drawn runs of calls: every answer and every exception of the class against the model's. */
final class ModelTest {
    private static final int[] SHORT_PERIODS = {1, 2, 3, 4, 5, 6, 8, 10, 12, 15, 20, 24, 30, 60};
    private static final int[] HYPER_FRIENDS = {36, 55, 40, 50, 25, 16, 60, 59, 33, 53, 45, 11};

    private final Check check;
    private final int run;
    private final ServerDesk desk = new ServerDesk();
    private final Model model = new Model();
    private long seed;
    private int calls = 0;

    private ModelTest(Check check, int run) {
        this.check = check;
        this.run = run;
        seed = run * 7919L + 12345L;
    }

    public static void main(String[] args) {
        int runs = args.length > 0 ? Integer.parseInt(args[0]) : 400;
        int first = args.length > 1 ? Integer.parseInt(args[1]) : 0;
        Check check = new Check();
        for (int run = first; run < first + runs && check.wrongSoFar() < 10; run++) {
            new ModelTest(check, run).drive();
        }
        check.close();
    }

    private void drive() {
        setUp();
        int most = calls + 20 + draw(run % 10 == 0 ? 400 : 60);
        while (calls < most) {
            oneCall();
            if (draw(150) == 0) {
                desk.reset();
                model.reset();
                setUp();
            }
        }
        for (int what = -1; what <= 8; what++) {
            state(what);
        }
        for (int number = 0; number < 6; number++) {
            ended(number);
        }
    }

    /** Most drawn tasks are too much for a start, so a few tries are made. */
    private void setUp() {
        for (int tries = 0; tries < 6; tries++) {
            drawSettings();
            if (start().equals("0")) {
                return;
            }
            desk.reset();
            model.reset();
        }
    }

    private void drawSettings() {
        int count = draw(6);
        for (int i = 0; i < count; i++) {
            drawTask();
        }
        int rules = draw(4);
        for (int i = 0; i < rules; i++) {
            drawRule(draw(4));
        }
        if (draw(3) > 0) {
            drawRule(3);
        }
        for (int what = 0; what <= 7; what++) {
            state(what);
        }
    }

    private void oneCall() {
        int choice = draw(100);
        if (choice < 40) {
            tick(draw(12) == 0 ? draw(103) : 1 + draw(run % 3 == 0 ? 20 : 5));
        } else if (choice < 52) {
            job(draw(20) == 0 ? draw(40) - 4 : 1 + draw(run % 2 == 0 ? 6 : 30));
        } else if (choice < 62) {
            hard(draw(20) == 0 ? draw(40) - 4 : 1 + draw(6), draw(15) == 0 ? draw(220) - 5 : 1 + draw(40));
        } else if (choice < 72) {
            early(draw(20) == 0 ? draw(8) - 1 : draw(3), draw(20) == 0 ? draw(9) - 2 : 1 + draw(2));
        } else if (choice < 80) {
            slack();
        } else if (choice < 86) {
            replay(draw(20) == 0 ? draw(8) - 2 : draw(4));
            state(0);
            state(1);
            state(3);
        } else if (choice < 95) {
            look();
        } else {
            outOfTurn();
        }
    }

    private void look() {
        switch (draw(4)) {
            case 0:
                ended(draw(12) - 1);
                break;
            case 1:
                trace(draw(120) - 2);
                break;
            case 2:
                served(draw(20) - 1, draw(60));
                break;
            default:
                state(draw(10) - 1);
        }
    }

    private void outOfTurn() {
        switch (draw(3)) {
            case 0:
                drawTask();
                break;
            case 1:
                drawRule(draw(6) - 1);
                break;
            default:
                start();
        }
    }

    private void drawTask() {
        int[] periods = run % 8 == 7 ? HYPER_FRIENDS : SHORT_PERIODS;
        int period = periods[draw(periods.length)];
        int cost = 1 + draw(Math.max(1, period / (1 + draw(5))));
        int deadline = draw(2) == 0 ? period : cost + draw(Math.max(1, period - cost + 1));
        int offset = draw(2) == 0 ? 0 : draw(period);
        if (draw(25) == 0) {
            offset = draw(64) - 2;
            cost = draw(64) - 1;
            deadline = draw(64);
        }
        task(period, offset, cost, deadline);
    }

    private void drawRule(int kind) {
        int period = 1 + draw(draw(3) == 0 ? 62 : 20);
        rule(kind, draw(20) == 0 ? draw(64) - 2 : 1 + draw(Math.max(1, period / 4)), period);
    }

    private int draw(int bound) {
        seed = seed * 6364136223846793005L + 1442695040888963407L;
        return (int) ((seed >>> 33) % bound);
    }

    private void same(String call, String got, String want) {
        calls++;
        check.same("run " + run + ", call " + calls + ": " + call, got, want);
    }

    private void task(int a, int b, int c, int d) {
        same("task(" + a + ", " + b + ", " + c + ", " + d + ")",
                Check.told(() -> desk.task(a, b, c, d)), Check.told(() -> model.task(a, b, c, d)));
    }

    private void rule(int a, int b, int c) {
        same("rule(" + a + ", " + b + ", " + c + ")", Check.told(() -> desk.rule(a, b, c) ? 1 : 0),
                Check.told(() -> model.rule(a, b, c) ? 1 : 0));
    }

    private String start() {
        String want = Check.told(() -> { model.start(); return 0; });
        same("start()", Check.told(() -> { desk.start(); return 0; }), want);
        return want;
    }

    private void tick(int n) {
        same("tick(" + n + ")", Check.told(() -> desk.tick(n)), Check.told(() -> model.tick(n)));
    }

    private void job(int cost) {
        same("job(" + cost + ")", Check.told(() -> desk.job(cost)), Check.told(() -> model.job(cost)));
    }

    private void hard(int a, int b) {
        same("hard(" + a + ", " + b + ")", Check.told(() -> desk.hard(a, b)),
                Check.told(() -> model.hard(a, b)));
    }

    private void early(int a, int b) {
        same("early(" + a + ", " + b + ")", Check.told(() -> { desk.early(a, b); return 0; }),
                Check.told(() -> { model.early(a, b); return 0; }));
    }

    private void ended(int a) {
        same("ended(" + a + ")", Check.told(() -> desk.ended(a)), Check.told(() -> model.ended(a)));
    }

    private void slack() {
        same("slack()", Check.told(() -> desk.slack()), Check.told(() -> model.slack()));
    }

    private void trace(int a) {
        same("trace(" + a + ")", Check.told(() -> desk.trace(a)), Check.told(() -> model.trace(a)));
    }

    private void served(int a, int b) {
        same("served(" + a + ", " + b + ")", Check.told(() -> desk.served(a, b)),
                Check.told(() -> model.served(a, b)));
    }

    private void replay(int a) {
        same("replay(" + a + ")", Check.told(() -> desk.replay(a)), Check.told(() -> model.replay(a)));
    }

    private void state(int a) {
        same("state(" + a + ")", Check.told(() -> desk.state(a)), Check.told(() -> model.state(a)));
    }
}
