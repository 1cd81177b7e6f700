/** Edges of the term SLACK and of promise 10. */
final class SlackEdgesTest {
    private final Check check = new Check();
    private final Edges edges = new Edges(check);

    public static void main(String[] args) {
        SlackEdgesTest test = new SlackEdgesTest();
        test.notStarted();
        test.withoutTasks();
        test.noneAtAll();
        test.upToTheDeadline();
        test.instancesOfThisMomentAreReckonedWith();
        test.instancesOfTheFuture();
        test.theFarthestLook();
        test.eachPriorityCounts();
        test.withWhatEarlyTold();
        test.jobsAndBudgetsDoNotCount();
        test.atTheLastMoment();
        test.lookingChangesNothing();
        test.check.close();
    }

    private void notStarted() {
        edges.refused("10: a new object", Edges.STATE, x -> { }, x -> x.slack());
        for (int kind = 0; kind < 4; kind++) {
            int rule = kind;
            edges.refused("10: not started", Edges.STATE, x -> Edges.plan(x, rule), x -> x.slack());
        }
        edges.refused("10: not started since the reset", Edges.STATE, x -> {
            Edges.run(x, 3);
            x.reset();
        }, x -> x.slack());
    }

    private void withoutTasks() {
        for (int kind = 0; kind < 4; kind++) {
            ServerDesk x = new ServerDesk();
            x.rule(kind, 3, 7);
            x.start();
            check.due("10: 1000 without tasks", x.slack(), 1000);
            x.job(30);
            check.due("10: 1000 with a job", x.slack(), 1000);
            x.tick(1);
            check.due("10: 1000 after a tick", x.slack(), 1000);
            Edges.tickTo(x, 2000);
            check.due("10: 1000 at the end", x.slack(), 1000);
        }
    }

    private void noneAtAll() {
        ServerDesk x = new ServerDesk();
        x.task(2, 0, 1, 2);
        x.task(4, 0, 2, 4);
        x.start();
        for (int moment = 0; moment < 12; moment++) {
            check.due("10: a full machine at " + moment, x.slack(), 0);
            x.tick(1);
        }
    }

    private void upToTheDeadline() {
        // So much more than its cost an instance has; one more and it would be late.
        for (int spare = 0; spare <= 3; spare++) {
            ServerDesk x = new ServerDesk();
            x.task(60, 0, 10, 10 + spare);
            x.start();
            check.due("10: deadline - cost", x.slack(), spare);
            x.tick(4);
            check.due("10: the same while it runs", x.slack(), spare);
            x.tick(5);
            check.due("10: the same with one tick to go", x.slack(), spare);
            x.tick(1);
            check.due("10: when it is done, the next one", x.slack(), 50 + spare);
        }
    }

    private void instancesOfThisMomentAreReckonedWith() {
        ServerDesk x = new ServerDesk();
        x.task(10, 5, 4, 6);
        x.start();
        check.due("10: at 0", x.slack(), 7);
        x.tick(4);
        check.due("10: the moment before", x.slack(), 3);
        x.tick(1);
        check.due("10: at its moment, not ready yet", x.slack(), 2);
        x.tick(1);
        check.due("10: ready, and one tick done", x.slack(), 2);
        x.tick(9);
        check.due("10: at the next one's moment", x.slack(), 2);
    }

    private void instancesOfTheFuture() {
        ServerDesk x = new ServerDesk();
        x.task(20, 10, 5, 5);
        x.start();
        for (int moment = 0; moment <= 10; moment++) {
            check.due("10: up to the offset, at " + moment, x.slack(), 10 - moment);
            x.tick(1);
        }
        x.tick(3);
        check.due("10: with one tick to go", x.slack(), 0);
        x.tick(1);
        check.due("10: up to the next one", x.slack(), 15);
        // One of the future is nearer than the one that is ready.
        ServerDesk y = new ServerDesk();
        y.task(60, 0, 2, 50);
        y.task(60, 7, 3, 4);
        y.start();
        check.due("10: ready up to 50, but the other up to 11", y.slack(), 8);
        y.tick(2);
        check.due("10: the other one alone", y.slack(), 6);
    }

    private void theFarthestLook() {
        ServerDesk x = new ServerDesk();
        x.task(60, 59, 1, 60);
        x.start();
        check.due("10: from 0 up to 119", x.slack(), 118);
        x.tick(60);
        check.due("10: from 60 up to 179", x.slack(), 118);
        x.tick(1);
        check.due("10: from 61 up to 179", x.slack(), 117);
        ServerDesk y = new ServerDesk();
        y.task(60, 0, 1, 60);
        y.start();
        check.due("10: from 0 up to 60", y.slack(), 59);
        y.tick(1);
        check.due("10: from 1 up to 120", y.slack(), 118);
    }

    private void eachPriorityCounts() {
        // Above: 5 - 2; the middle: 10 - 4 - 1; the last: 20 - 8 - 2 - 5.
        ServerDesk x = new ServerDesk();
        x.task(20, 0, 5, 20);
        x.task(5, 0, 2, 5);
        x.task(10, 0, 1, 10);
        x.start();
        check.due("10: the least of 3, 5 and 5", x.slack(), 3);
        x.tick(2);
        check.due("10: above has 6 up to 10, the middle 5, the last 5", x.slack(), 5);
        ServerDesk y = new ServerDesk();
        y.task(20, 0, 9, 20);
        y.task(5, 0, 2, 5);
        y.task(10, 0, 1, 10);
        y.start();
        check.due("10: the least of 3, 5 and 1", y.slack(), 1);
        ServerDesk z = new ServerDesk();
        z.task(20, 0, 4, 20);
        z.task(5, 0, 2, 5);
        z.task(10, 0, 3, 8);
        z.start();
        check.due("10: the least of 3, 1 and 2", z.slack(), 1);
    }

    private void withWhatEarlyTold() {
        ServerDesk x = new ServerDesk();
        x.task(10, 0, 6, 8);
        x.start();
        check.due("10: nothing told", x.slack(), 2);
        x.early(0, 6);
        check.due("10: told the cost", x.slack(), 2);
        x.early(0, 5);
        check.due("10: told one less", x.slack(), 3);
        x.early(0, 1);
        check.due("10: told the least", x.slack(), 7);
        x.tick(1);
        check.due("10: the one that was told of is done", x.slack(), 11);
        x.early(0, 2);
        check.due("10: told of one of the future", x.slack(), 15);
        Edges.tickTo(x, 12);
        check.due("10: the one behind needs its cost", x.slack(), 10);
    }

    private void jobsAndBudgetsDoNotCount() {
        for (int kind = 0; kind < 4; kind++) {
            ServerDesk x = new ServerDesk();
            x.task(30, 0, 5, 30);
            x.rule(kind, 3, 10);
            x.start();
            check.due("10: rule " + kind, x.slack(), 25);
            x.job(30);
            check.due("10: with a job, rule " + kind, x.slack(), 25);
            x.tick(1);
            check.due("10: a tick later, rule " + kind, x.slack(), kind == 0 ? 25 : 24);
        }
    }

    private void atTheLastMoment() {
        ServerDesk x = new ServerDesk();
        x.task(50, 0, 10, 40);
        x.start();
        Edges.tickTo(x, 1999);
        check.due("10: at 1999", x.slack(), 31);
        x.tick(1);
        check.due("10: at 2000, for what would come", x.slack(), 30);
        x.early(0, 4);
        check.due("10: at 2000, told early", x.slack(), 36);
    }

    private void lookingChangesNothing() {
        for (int kind = 0; kind < 4; kind++) {
            int rule = kind;
            ServerDesk x = new ServerDesk();
            Edges.run(x, kind);
            edges.leavesAll("10: slack, rule " + kind, x.slack(), y -> Edges.run(y, rule), y -> y.slack());
        }
    }
}
