/** Edges of promise 8. */
final class EarlyEdgesTest {
    private static final int MIN = Integer.MIN_VALUE;
    private static final int MAX = Integer.MAX_VALUE;

    private final Check check = new Check();
    private final Edges edges = new Edges(check);

    public static void main(String[] args) {
        EarlyEdgesTest test = new EarlyEdgesTest();
        test.onlyTasksThatAre();
        test.ticksFrom1ToTheCost();
        test.notStarted();
        test.atMost200();
        test.allCountFor200();
        test.theNextInstanceAlone();
        test.theInstanceOfThisMoment();
        test.theOneThatIsReadyIsNotMeant();
        test.theLeastOfTheNumbers();
        test.eachTaskForItself();
        test.eachAtItsMomentInAReplay();
        test.atTheLastMoment();
        test.check.close();
    }

    private void refused(int task, int ticks) {
        String call = "8: early(" + task + ", " + ticks + ")";
        for (int kind = 0; kind < 4; kind++) {
            int rule = kind;
            edges.refused(call + ", rule " + kind, Edges.ARGUMENT, x -> Edges.run(x, rule),
                    x -> x.early(task, ticks));
        }
        edges.refused(call + ", not started", Edges.ARGUMENT, x -> Edges.plan(x, 0), x -> x.early(task, ticks));
        edges.refused(call + ", 200 told", Edges.ARGUMENT, x -> {
            Edges.plan(x, 3);
            x.start();
            tell200(x, 4);
        }, x -> x.early(task, ticks));
    }

    private static void tell200(ServerDesk x, int ticks) {
        for (int i = 0; i < 200; i++) {
            x.early(0, ticks);
        }
    }

    private void onlyTasksThatAre() {
        int[] wrong = {-1, 3, 4, 5, MIN, MAX};
        for (int task : wrong) {
            refused(task, 1);
        }
        edges.refused("8: a new object", Edges.ARGUMENT, x -> { }, x -> x.early(0, 1));
        edges.refused("8: without tasks", Edges.ARGUMENT, x -> x.start(), x -> x.early(0, 1));
        edges.refused("8: without tasks since the reset", Edges.ARGUMENT, x -> {
            Edges.run(x, 3);
            x.reset();
            x.start();
        }, x -> x.early(0, 1));
        ServerDesk y = new ServerDesk();
        for (int task = 0; task < 5; task++) {
            y.task(30, 0, 2, 10);
        }
        y.start();
        for (int task = 0; task < 5; task++) {
            y.early(task, 1);
        }
        check.fails("8: no sixth task", Edges.ARGUMENT, () -> y.early(5, 1));
        y.tick(6);
        edges.traceIs("8: each of five tasks", y, 0, 1, 2, 3, 4, 5, 0);
    }

    private void ticksFrom1ToTheCost() {
        // The costs of the plan are 4, 3 and 2.
        int[][] wrong = {{0, 0}, {0, -1}, {0, 5}, {0, MIN}, {0, MAX}, {1, 0}, {1, 4}, {2, 0}, {2, 3}};
        for (int[] w : wrong) {
            refused(w[0], w[1]);
        }
        int[] right = {1, 2, 59, 60};
        for (int ticks : right) {
            ServerDesk x = new ServerDesk();
            x.task(60, 0, 60, 60);
            x.start();
            x.early(0, ticks);
            check.due("10: told " + ticks, x.slack(), 60 - ticks);
            check.fails("8: above the cost", Edges.ARGUMENT, () -> x.early(0, 61));
            x.job(30);
            x.tick(60);
            check.due("8: as many ticks as told, " + ticks, 60 - x.served(0, 60), Math.max(30, ticks));
        }
        ServerDesk y = new ServerDesk();
        y.task(60, 0, 1, 60);
        y.start();
        y.early(0, 1);
        check.fails("8: a cost of 1", Edges.ARGUMENT, () -> y.early(0, 0));
        check.fails("8: a cost of 1", Edges.ARGUMENT, () -> y.early(0, 2));
    }

    private void notStarted() {
        for (int kind = 0; kind < 4; kind++) {
            int rule = kind;
            edges.refused("8: not started", Edges.STATE, x -> Edges.plan(x, rule), x -> x.early(0, 1));
        }
        edges.refused("8: not started, one task", Edges.STATE, x -> x.task(5, 0, 2, 5), x -> x.early(0, 2));
    }

    private void atMost200() {
        for (int kind = 0; kind < 4; kind++) {
            int rule = kind;
            edges.refused("8: a 201st", Edges.STATE, x -> {
                Edges.plan(x, rule);
                x.start();
                tell200(x, 4);
            }, x -> x.early(0, 1));
            edges.refused("8: a 201st for another task", Edges.STATE, x -> {
                Edges.plan(x, rule);
                x.start();
                tell200(x, 4);
            }, x -> x.early(1, 1));
        }
        ServerDesk x = new ServerDesk();
        x.task(10, 0, 5, 10);
        x.start();
        for (int i = 0; i < 199; i++) {
            x.early(0, 5);
        }
        check.due("10: 199 that change nothing", x.slack(), 5);
        x.early(0, 2);
        check.due("10: the 200th counts", x.slack(), 8);
        check.fails("8: the 201st", Edges.STATE, () -> x.early(0, 1));
        check.due("10: it does not count", x.slack(), 8);
        x.tick(3);
        edges.traceIs("8: the 200th counts", x, 0, 1, 1, 0);
        check.due("13: the 200th counts in a replay", x.replay(0), 0);
        check.due("14: the same ticks", x.state(1), 3);
    }

    private void allCountFor200() {
        ServerDesk x = new ServerDesk();
        x.task(5, 0, 2, 5);
        x.task(5, 0, 2, 5);
        x.start();
        for (int i = 0; i < 200; i++) {
            x.early(i % 2, 1 + i % 2);
            check.fails("8: refused, so it does not count", Edges.ARGUMENT, () -> x.early(0, 3));
            if (i % 10 == 9) {
                x.tick(1 + i % 3);
            }
        }
        check.fails("8: 200, of many instances", Edges.STATE, () -> x.early(0, 1));
        check.fails("8: 200, of many instances", Edges.STATE, () -> x.early(1, 2));
    }

    private void theNextInstanceAlone() {
        ServerDesk x = new ServerDesk();
        x.task(6, 2, 3, 6);
        x.start();
        x.early(0, 1);
        x.tick(20);
        edges.traceIs("8: the first alone", x, 0, 0, 0, 1, 0, 0, 0, 0, 0, 1, 1, 1, 0, 0, 0, 1, 1, 1, 0, 0, 0);
    }

    private void theInstanceOfThisMoment() {
        ServerDesk x = new ServerDesk();
        x.task(6, 0, 3, 6);
        x.start();
        x.early(0, 1);
        x.tick(6);
        // At 6 it is not ready before the tick: it is the next one to become ready.
        x.early(0, 2);
        x.tick(12);
        edges.traceIs("8: told at its moment", x, 0, 1, 0, 0, 0, 0, 0, 1, 1, 0, 0, 0, 0, 1, 1, 1, 0, 0, 0);
    }

    private void theOneThatIsReadyIsNotMeant() {
        ServerDesk x = new ServerDesk();
        x.task(6, 0, 3, 6);
        x.start();
        x.tick(1);
        x.early(0, 1);
        x.tick(15);
        edges.traceIs("8: told when it is ready", x, 0, 1, 1, 1, 0, 0, 0, 1, 0, 0, 0, 0, 0, 1, 1, 1, 0);
    }

    private void theLeastOfTheNumbers() {
        int[][] orders = {{3, 1, 2}, {1, 2, 3}, {2, 3, 1}, {1, 1, 4}};
        for (int[] order : orders) {
            ServerDesk x = new ServerDesk();
            x.task(10, 3, 4, 10);
            x.start();
            for (int ticks : order) {
                x.early(0, ticks);
                x.tick(1);
            }
            x.tick(12);
            edges.traceIs("8: the least of three", x, 0, 0, 0, 0, 1, 0, 0, 0, 0, 0, 0, 0, 0, 0, 1, 1);
        }
        // What was told of one instance says nothing of the next, which is told of anew.
        ServerDesk y = new ServerDesk();
        y.task(5, 0, 4, 5);
        y.start();
        y.early(0, 1);
        y.tick(2);
        y.early(0, 3);
        y.tick(10);
        edges.traceIs("8: told of each", y, 0, 1, 0, 0, 0, 0, 1, 1, 1, 0, 0, 1, 1);
    }

    private void eachTaskForItself() {
        ServerDesk x = new ServerDesk();
        x.task(10, 0, 3, 10);
        x.task(10, 0, 3, 9);
        x.start();
        x.early(0, 1);
        x.tick(5);
        edges.traceIs("8: the other one needs its cost", x, 0, 2, 2, 2, 1, 0);
    }

    private void eachAtItsMomentInAReplay() {
        // Told at 3: at 0 .. 2 nobody knew, so under rule 3 there were 2 ticks of slack alone.
        ServerDesk x = new ServerDesk();
        x.task(5, 0, 3, 5);
        x.rule(3, 0, 0);
        x.start();
        x.job(9);
        x.tick(3);
        x.early(0, 1);
        x.tick(9);
        edges.traceIs("8: rule 3", x, 0, -1, -1, 1, 1, 1, -1, -1, -1, -1, 1, -1, -1);
        check.due("13: the job does not end", x.replay(3), 0);
        check.due("14: all the same", x.state(1), 12);
        // Under rule 0: 1 1 1 -1 -1 1 -1 -1 -1 -1 1 1
        check.due("13: the job does not end", x.replay(0), 0);
        check.due("14: the same at 2, 6, 7 and 8", x.state(1), 4);
        // Told at a moment, it counts in the replay for the instance of that very moment.
        ServerDesk y = new ServerDesk();
        y.task(5, 0, 3, 5);
        y.start();
        y.tick(5);
        y.early(0, 1);
        y.job(1);
        y.tick(5);
        check.due("9: in the run", y.ended(0), 7);
        check.due("13: in the replay", y.replay(0), 2);
        check.due("14: all the same", y.state(1), 10);
    }

    private void atTheLastMoment() {
        ServerDesk x = new ServerDesk();
        x.task(10, 0, 5, 10);
        x.start();
        Edges.tickTo(x, 1999);
        x.early(0, 4);
        check.due("10: told at 1999", x.slack(), 7);
        x.tick(1);
        check.due("10: at 2000", x.slack(), 6);
        x.early(0, 1);
        check.due("10: told at 2000", x.slack(), 9);
        check.due("13: nothing of it in a replay", x.replay(0), 0);
        check.due("14: all the same", x.state(1), 2000);
    }
}
