import java.util.NoSuchElementException;

/** Edges of the term JOBS and of promises 6 and 9. */
final class JobEdgesTest {
    private static final Class<NoSuchElementException> NO_ELEMENT = NoSuchElementException.class;

    private final Check check = new Check();
    private final Edges edges = new Edges(check);

    public static void main(String[] args) {
        JobEdgesTest test = new JobEdgesTest();
        test.costFrom1To30();
        test.costIsWhatAJobNeeds();
        test.notStarted();
        test.atMost40Jobs();
        test.allSortsCountFor40();
        test.theQueueInItsOrder();
        test.hardOnesFirst();
        test.aJobAtTheLastMoment();
        test.noSuchJob();
        test.endedBehindTheLastTick();
        test.lookingChangesNothing();
        test.check.close();
    }

    private void costFrom1To30() {
        int[] right = {1, 2, 29, 30};
        for (int cost : right) {
            ServerDesk x = new ServerDesk();
            x.start();
            check.due("6: job(" + cost + ")", x.job(cost), 0);
        }
        int[] wrong = {0, -1, 31, 32, Integer.MIN_VALUE, Integer.MAX_VALUE};
        for (int cost : wrong) {
            for (int kind = 0; kind < 4; kind++) {
                int rule = kind;
                edges.refused("6: job(" + cost + ")", Edges.ARGUMENT, x -> Edges.run(x, rule), x -> x.job(cost));
            }
            edges.refused("6: job(" + cost + "), not started", Edges.ARGUMENT, x -> Edges.plan(x, 0),
                    x -> x.job(cost));
            edges.refused("6: job(" + cost + "), 40 jobs", Edges.ARGUMENT, JobEdgesTest::fortyJobs,
                    x -> x.job(cost));
        }
    }

    private void costIsWhatAJobNeeds() {
        int[] costs = {1, 2, 29, 30};
        for (int cost : costs) {
            ServerDesk x = new ServerDesk();
            x.start();
            x.job(cost);
            x.tick(40);
            check.due("6: ticks of " + cost, x.served(0, 40), cost);
            check.due("9: the end of " + cost, x.ended(0), cost);
        }
    }

    private void notStarted() {
        edges.refused("6: a new object", Edges.STATE, x -> { }, x -> x.job(1));
        for (int kind = 0; kind < 4; kind++) {
            int rule = kind;
            edges.refused("6: not started", Edges.STATE, x -> Edges.plan(x, rule), x -> x.job(30));
        }
        edges.refused("6: not started since the reset", Edges.STATE, x -> {
            Edges.run(x, 1);
            x.reset();
        }, x -> x.job(1));
    }

    private static void fortyJobs(ServerDesk x) {
        x.task(10, 0, 3, 10);
        x.rule(3, 0, 0);
        x.start();
        for (int i = 0; i < 40; i++) {
            x.job(1 + i % 3);
        }
    }

    private void atMost40Jobs() {
        ServerDesk x = new ServerDesk();
        x.start();
        for (int number = 0; number < 40; number++) {
            check.due("6: numbered as they come", x.job(30), number);
            check.due("14: in the queue", x.state(5), number + 1);
        }
        check.fails("6: a 41st", Edges.STATE, () -> x.job(30));
        check.due("14: in the queue", x.state(5), 40);
        edges.refused("6: a 41st job", Edges.STATE, JobEdgesTest::fortyJobs, y -> y.job(1));
        edges.refused("6: a 41st job, though some ended", Edges.STATE, y -> {
            fortyJobs(y);
            y.tick(60);
        }, y -> y.job(1));
        edges.refused("6: a 41st job, though all ended", Edges.STATE, y -> {
            fortyJobs(y);
            Edges.tickTo(y, 300);
        }, y -> y.job(1));
    }

    private void allSortsCountFor40() {
        ServerDesk x = new ServerDesk();
        x.rule(3, 0, 0);
        x.start();
        for (int number = 0; number < 39; number++) {
            check.due("6: number", number % 2 == 0 ? x.job(1) : x.hard(1, 200), number);
            check.due("7: not accepted, so it does not count", x.hard(30, 1), -1);
            check.fails("6: refused, so it does not count", Edges.ARGUMENT, () -> x.job(31));
        }
        check.due("6: the last one", x.job(1), 39);
        check.fails("6: a 41st", Edges.STATE, () -> x.job(1));
        check.fails("7: a 41st", Edges.STATE, () -> x.hard(1, 200));
    }

    private void theQueueInItsOrder() {
        ServerDesk x = new ServerDesk();
        x.start();
        check.due("14: an empty queue", x.state(5), 0);
        x.job(2);
        x.job(1);
        x.tick(1);
        x.job(1);
        check.due("14: a job that was begun is in the queue", x.state(5), 3);
        x.tick(1);
        check.due("14: one that ended is not", x.state(5), 2);
        x.tick(3);
        check.due("14: an empty queue again", x.state(5), 0);
        edges.traceIs("6: in the order of arrival", x, 0, -1, -1, -2, -3, 0);
        check.due("6: the next number", x.job(1), 3);
    }

    private void hardOnesFirst() {
        ServerDesk x = new ServerDesk();
        x.rule(3, 0, 0);
        x.start();
        x.job(2);
        x.job(1);
        x.hard(2, 50);
        x.tick(1);
        x.hard(1, 50);
        x.tick(3);
        x.hard(1, 50);
        x.tick(4);
        edges.traceIs("6: the hard ones first, each sort in its order", x, 0, -3, -3, -4, -1, -5, -1, -2, 0);
    }

    private void aJobAtTheLastMoment() {
        ServerDesk x = new ServerDesk();
        x.start();
        Edges.tickTo(x, 1999);
        check.due("6: at 1999", x.job(1), 0);
        check.due("6: the last tick", x.tick(1), -1);
        check.due("9: its end", x.ended(0), 2000);
        check.due("6: at 2000", x.job(1), 1);
        check.due("14: in the queue", x.state(5), 1);
        check.due("9: not yet", x.ended(1), -1);
        check.due("13: only the one that ended", x.replay(0), 1);
        check.due("14: only the one that ended", x.state(0), 1);
    }

    private void noSuchJob() {
        int[] wrong = {-1, 40, 41, Integer.MIN_VALUE, Integer.MAX_VALUE};
        for (int job : wrong) {
            edges.refused("9: ended(" + job + "), a new object", NO_ELEMENT, x -> { }, x -> x.ended(job));
            edges.refused("9: ended(" + job + ")", NO_ELEMENT, x -> Edges.run(x, 3), x -> x.ended(job));
            edges.refused("9: ended(" + job + "), 40 jobs", NO_ELEMENT, JobEdgesTest::fortyJobs,
                    x -> x.ended(job));
        }
        ServerDesk x = new ServerDesk();
        x.rule(3, 0, 0);
        x.start();
        for (int number = 0; number < 40; number++) {
            int next = number;
            check.fails("9: not before it arrived", NO_ELEMENT, () -> x.ended(next));
            x.job(1);
            check.due("9: not yet", x.ended(number), -1);
            if (number < 39) {
                check.due("7: not accepted", x.hard(30, 29), -1);
            }
        }
        check.fails("9: no 41st", NO_ELEMENT, () -> x.ended(40));
        x.reset();
        check.fails("9: none since the reset", NO_ELEMENT, () -> x.ended(0));
    }

    private void endedBehindTheLastTick() {
        ServerDesk x = new ServerDesk();
        x.task(4, 0, 2, 4);
        x.start();
        x.job(3);
        x.job(1);
        x.tick(6);
        check.due("9: one tick to go", x.ended(0), -1);
        check.due("9: not begun", x.ended(1), -1);
        x.tick(1);
        check.due("9: its last tick was at 6", x.ended(0), 7);
        check.due("9: the next not yet", x.ended(1), -1);
        x.tick(1);
        check.due("9: its only tick was at 7", x.ended(1), 8);
        x.tick(50);
        check.due("9: it stays so", x.ended(0), 7);
        check.due("9: it stays so", x.ended(1), 8);
    }

    private void lookingChangesNothing() {
        edges.leavesAll("9: ended, not yet", -1, x -> Edges.run(x, 0), x -> x.ended(2));
        edges.leavesAll("9: ended", 2, x -> Edges.run(x, 3), x -> x.ended(0));
    }
}
