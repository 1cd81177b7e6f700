/** Edges of the term A TICK and of promise 5, with the rules 0 and 3. */
final class TickEdgesTest {
    private final Check check = new Check();
    private final Edges edges = new Edges(check);

    public static void main(String[] args) {
        TickEdgesTest test = new TickEdgesTest();
        test.ticksFrom1To100();
        test.notStarted();
        test.noMomentAbove2000();
        test.manyTicksAreAsManyOnes();
        test.theRunnerOfTheLastOne();
        test.instancesBecomeReadyBeforeTheTick();
        test.whatComesBackComesBeforeTheTick();
        test.aJobOnlyWhenNoInstanceIsReady();
        test.aJobOnlyIfTheSlackIsAbove0();
        test.anEmptyQueue();
        test.check.close();
    }

    private void ticksFrom1To100() {
        ServerDesk x = new ServerDesk();
        x.start();
        x.tick(1);
        check.due("5: one tick", x.state(4), 1);
        x.tick(100);
        check.due("5: a hundred ticks", x.state(4), 101);
        x.tick(99);
        check.due("5: one less", x.state(4), 200);
        int[] wrong = {0, -1, 101, 102, 200, Integer.MIN_VALUE, Integer.MAX_VALUE};
        for (int n : wrong) {
            for (int kind = 0; kind < 4; kind++) {
                int rule = kind;
                edges.refused("5: tick(" + n + ")", Edges.ARGUMENT, y -> Edges.run(y, rule), y -> y.tick(n));
            }
            edges.refused("5: tick(" + n + "), not started", Edges.ARGUMENT, y -> Edges.plan(y, 0),
                    y -> y.tick(n));
            edges.refused("5: tick(" + n + ") at 2000", Edges.ARGUMENT, TickEdgesTest::toTheEnd,
                    y -> y.tick(n));
        }
    }

    private void notStarted() {
        edges.refused("5: a new object", Edges.STATE, x -> { }, x -> x.tick(1));
        for (int kind = 0; kind < 4; kind++) {
            int rule = kind;
            edges.refused("5: not started", Edges.STATE, x -> Edges.plan(x, rule), x -> x.tick(100));
        }
        edges.refused("5: not started, as it was refused", Edges.STATE, x -> {
            x.task(1, 0, 1, 1);
            x.task(1, 0, 1, 1);
            check.fails("4: too much", Edges.STATE, () -> x.start());
        }, x -> x.tick(1));
        edges.refused("5: not started since the reset", Edges.STATE, x -> {
            Edges.run(x, 2);
            x.reset();
        }, x -> x.tick(1));
    }

    private static void toTheEnd(ServerDesk x) {
        Edges.run(x, 3);
        Edges.tickTo(x, 2000);
    }

    private void noMomentAbove2000() {
        ServerDesk x = new ServerDesk();
        x.task(4, 3, 1, 4);
        x.start();
        Edges.tickTo(x, 1900);
        check.due("5: to 2000 in one call", x.tick(100), 1);
        check.due("5: the moment is 2000", x.state(4), 2000);
        check.fails("5: no more", Edges.STATE, () -> x.tick(1));
        for (int kind = 0; kind < 4; kind++) {
            int rule = kind;
            edges.refused("5: 100 ticks at 1901", Edges.STATE, y -> {
                Edges.run(y, rule);
                Edges.tickTo(y, 1901);
            }, y -> y.tick(100));
            edges.refused("5: 2 ticks at 1999", Edges.STATE, y -> {
                Edges.run(y, rule);
                Edges.tickTo(y, 1999);
                y.job(9);
            }, y -> y.tick(2));
            ServerDesk z = new ServerDesk();
            Edges.run(z, rule);
            Edges.tickTo(z, 1901);
            z.tick(98);
            check.due("5: 98 ticks at 1901", z.state(4), 1999);
            z.tick(1);
            check.due("5: the last tick", z.state(4), 2000);
        }
        edges.refused("5: a tick at 2000", Edges.STATE, TickEdgesTest::toTheEnd, y -> y.tick(1));
        edges.refused("5: 100 ticks at 2000", Edges.STATE, TickEdgesTest::toTheEnd, y -> y.tick(100));
    }

    private void manyTicksAreAsManyOnes() {
        for (int kind = 0; kind < 4; kind++) {
            int rule = kind;
            edges.sameAfter("5: 30 ticks, rule " + kind, x -> {
                Edges.run(x, rule);
                x.tick(30);
            }, x -> {
                Edges.run(x, rule);
                for (int i = 0; i < 30; i++) {
                    x.tick(1);
                }
            });
        }
    }

    private void theRunnerOfTheLastOne() {
        ServerDesk x = new ServerDesk();
        for (int task = 0; task < 5; task++) {
            x.task(10, task, 1, 5);
        }
        x.start();
        for (int task = 0; task < 5; task++) {
            check.due("5: the task + 1", x.tick(1), task + 1);
        }
        check.due("5: none", x.tick(1), 0);
        check.due("5: the last of five is none", x.tick(4), 0);
        check.due("5: the last of five is the fifth task", x.tick(5), 5);
        ServerDesk y = new ServerDesk();
        y.start();
        for (int job = 0; job < 40; job++) {
            y.job(1);
        }
        for (int job = 0; job < 40; job++) {
            check.due("5: -1 - the job's number", y.tick(1), -1 - job);
        }
        check.due("5: none behind the last job", y.tick(1), 0);
    }

    private void instancesBecomeReadyBeforeTheTick() {
        ServerDesk x = new ServerDesk();
        x.task(10, 5, 1, 10);
        x.start();
        x.job(30);
        check.due("5: the tick before", x.tick(5), -1);
        check.due("5: the tick of that moment", x.tick(1), 1);
        check.due("5: the tick behind", x.tick(1), -1);
        // One that is above and comes now has the tick, though another one was at work.
        ServerDesk y = new ServerDesk();
        y.task(20, 0, 5, 20);
        y.task(20, 2, 1, 5);
        y.start();
        y.tick(7);
        edges.traceIs("5: the one above at once", y, 0, 1, 1, 2, 1, 1, 1, 0);
    }

    private void whatComesBackComesBeforeTheTick() {
        for (int kind = 1; kind <= 2; kind++) {
            ServerDesk x = new ServerDesk();
            x.task(60, 0, 20, 60);
            x.rule(kind, 1, 6);
            x.start();
            x.job(3);
            x.tick(13);
            edges.traceIs("5: rule " + kind, x, 0, -1, 1, 1, 1, 1, 1, -1, 1, 1, 1, 1, 1, -1);
        }
    }

    private void aJobOnlyWhenNoInstanceIsReady() {
        ServerDesk x = new ServerDesk();
        x.task(6, 0, 3, 6);
        x.task(12, 0, 2, 12);
        x.start();
        x.job(4);
        x.tick(15);
        edges.traceIs("5: rule 0", x, 0, 1, 1, 1, 2, 2, -1, 1, 1, 1, -1, -1, -1, 1, 1, 1);
        check.due("5: a job that comes at an idle moment", x.ended(0), 12);
        ServerDesk y = new ServerDesk();
        y.task(6, 0, 6, 6);
        y.start();
        y.job(1);
        y.tick(100);
        check.due("5: there is always an instance", y.served(0, 100), 0);
    }

    private void aJobOnlyIfTheSlackIsAbove0() {
        ServerDesk x = new ServerDesk();
        x.task(10, 0, 3, 4);
        x.rule(3, 0, 0);
        x.start();
        x.job(2);
        check.due("10: slack 1", x.slack(), 1);
        check.due("5: served at slack 1", x.tick(1), -1);
        check.due("10: slack 0", x.slack(), 0);
        check.due("5: not served at slack 0", x.tick(1), 1);
        check.due("10: still 0", x.slack(), 0);
        x.tick(2);
        check.due("5: served when it is done", x.tick(1), -1);
        ServerDesk y = new ServerDesk();
        y.task(10, 0, 4, 4);
        y.rule(3, 0, 0);
        y.start();
        y.job(2);
        check.due("10: slack 0 at first", y.slack(), 0);
        y.tick(6);
        edges.traceIs("5: slack 0 at first", y, 0, 1, 1, 1, 1, -1, -1);
    }

    private void anEmptyQueue() {
        for (int kind = 0; kind < 4; kind++) {
            ServerDesk x = new ServerDesk();
            x.task(10, 1, 2, 10);
            x.rule(kind, 2, 5);
            x.start();
            x.tick(4);
            edges.traceIs("5: no job, rule " + kind, x, 0, 0, 1, 1, 0);
            check.due("5: nothing is used, rule " + kind, x.state(7), kind == 1 || kind == 2 ? 2 : 0);
        }
    }
}
