import java.util.NoSuchElementException;

/** Promises 5 to 9: ticks, jobs, hard jobs, early ones and ends. */
final class RunTest {
    private static final Class<IllegalArgumentException> ARGUMENT = IllegalArgumentException.class;
    private static final Class<IllegalStateException> STATE = IllegalStateException.class;

    private final Check check = new Check();

    public static void main(String[] args) {
        RunTest test = new RunTest();
        test.ticks();
        test.background();
        test.deferrable();
        test.sporadic();
        test.slackRule();
        test.offsets();
        test.jobs();
        test.hardAnswers();
        test.hardJobsGoFirst();
        test.hardEdges();
        test.hardByIdleTicks();
        test.early();
        test.earlyEdges();
        test.earlyMakesSlack();
        test.ended();
        test.check.close();
    }

    private void traceIs(String when, ServerDesk x, int... want) {
        check.due(when + ": moment", x.state(4), want.length);
        for (int moment = 0; moment < want.length; moment++) {
            check.due(when + ": trace(" + moment + ")", x.trace(moment), want[moment]);
        }
    }

    private void ticks() {
        ServerDesk x = new ServerDesk();
        x.task(4, 0, 1, 4);
        check.fails("5: not started", STATE, () -> x.tick(1));
        check.fails("5: a wrong number comes before", ARGUMENT, () -> x.tick(0));
        x.start();
        int[] wrong = {0, -1, 101, Integer.MIN_VALUE, Integer.MAX_VALUE};
        for (int n : wrong) {
            check.fails("5: tick(" + n + ")", ARGUMENT, () -> x.tick(n));
        }
        check.due("5: the last of 1", x.tick(1), 1);
        check.due("5: the last of 3", x.tick(3), 0);
        check.due("5: the last of 5", x.tick(5), 1);
        x.job(1);
        check.due("5: a job", x.tick(1), -1);
        x.tick(90);
        for (int i = 0; i < 18; i++) {
            x.tick(100);
        }
        x.tick(99);
        check.due("5: moment", x.state(4), 1999);
        check.fails("5: above 2000", STATE, () -> x.tick(2));
        check.due("5: nothing was done", x.state(4), 1999);
        check.due("5: the last one", x.tick(1), 0);
        check.due("5: moment 2000", x.state(4), 2000);
        check.fails("5: behind the last one", STATE, () -> x.tick(1));
        check.fails("5: a wrong number at the end", ARGUMENT, () -> x.tick(101));
        check.due("5: slack at the end", x.slack(), 3);
    }

    private void background() {
        ServerDesk x = new ServerDesk();
        x.task(5, 0, 3, 5);
        x.start();
        x.job(3);
        x.job(1);
        x.tick(10);
        traceIs("5: rule 0", x, 1, 1, 1, -1, -1, 1, 1, 1, -1, -2);
    }

    private void deferrable() {
        ServerDesk x = new ServerDesk();
        x.task(12, 0, 5, 12);
        check.due("5: rule 1 is admitted", x.rule(1, 2, 6), true);
        x.start();
        x.tick(1);
        x.job(9);
        check.due("5: left", x.state(7), 2);
        x.tick(1);
        check.due("5: left after one", x.state(7), 1);
        x.tick(4);
        check.due("5: left before moment 6 has its tick", x.state(7), 0);
        x.tick(1);
        check.due("5: left at 7", x.state(7), 1);
        x.tick(5);
        // At 6 two come anew; at 9 and 10 no instance is ready.
        traceIs("5: rule 1", x, 1, -1, -1, 1, 1, 1, -1, -1, 1, -1, -1, -1);
        x.tick(3);
        check.due("5: 12 and 13 from the budget", x.trace(13), -1);
        check.due("5: 14 for the task", x.trace(14), 1);
        check.due("5: ended", x.ended(0), 14);
        ServerDesk y = new ServerDesk();
        y.rule(1, 3, 5);
        y.start();
        y.job(2);
        y.tick(4);
        check.due("5: what is not used is not saved", y.state(7), 1);
        y.tick(2);
        check.due("5: it is the budget at 5", y.state(7), 3);
    }

    private void sporadic() {
        ServerDesk x = new ServerDesk();
        x.task(12, 0, 6, 12);
        check.due("5: rule 2 is admitted", x.rule(2, 2, 5), true);
        x.start();
        x.tick(1);
        x.job(7);
        x.tick(1);
        check.due("5: left after one", x.state(7), 1);
        x.tick(4);
        check.due("5: left before 6 has its tick", x.state(7), 0);
        x.tick(1);
        check.due("5: what came back at 6 is used at 6", x.state(7), 0);
        x.tick(7);
        // Used at 1 and 2, back at 6 and 7; used at 11 and 12 once more.
        traceIs("5: rule 2", x, 1, -1, -1, 1, 1, 1, -1, -1, 1, 1, -1, -1, -1, 1);
        check.due("5: ended", x.ended(0), 13);
        ServerDesk y = new ServerDesk();
        y.rule(2, 3, 5);
        y.start();
        y.tick(7);
        check.due("5: nothing comes back unused", y.state(7), 3);
        y.job(1);
        y.tick(5);
        check.due("5: used at 7, at 12 not yet back", y.state(7), 2);
        y.tick(1);
        check.due("5: back at 12", y.state(7), 3);
    }

    private void slackRule() {
        // At 0 the task below may wait: it has 6 ticks, needs 2, and the one above takes 2 of them.
        ServerDesk x = new ServerDesk();
        x.task(4, 0, 1, 4);
        x.task(6, 0, 2, 6);
        x.rule(3, 0, 0);
        x.start();
        x.job(6);
        x.tick(12);
        traceIs("5: rule 3", x, -1, -1, 1, 2, 1, 2, -1, -1, -1, 1, 2, 2);
        check.due("5: nothing is left under rule 3", x.state(7), 0);
        check.due("5: nobody late", x.state(2), 0);
    }

    private void offsets() {
        ServerDesk x = new ServerDesk();
        x.task(5, 3, 2, 4);
        x.start();
        x.tick(11);
        traceIs("5: offset 3", x, 0, 0, 0, 1, 1, 0, 0, 0, 1, 1, 0);
    }

    private void jobs() {
        ServerDesk x = new ServerDesk();
        check.fails("6: not started", STATE, () -> x.job(1));
        check.fails("6: a wrong cost comes before", ARGUMENT, () -> x.job(0));
        x.start();
        int[] wrong = {0, -1, 31, Integer.MIN_VALUE, Integer.MAX_VALUE};
        for (int cost : wrong) {
            check.fails("6: job(" + cost + ")", ARGUMENT, () -> x.job(cost));
        }
        for (int i = 0; i < 40; i++) {
            check.due("6: number", x.job(i % 2 == 0 ? 1 : 30), i);
            check.due("6: queue", x.state(5), i + 1 - (i >= 20 ? 1 : 0));
            if (i == 19) {
                check.due("6: the first one first", x.tick(1), -1);
            }
        }
        check.fails("6: there were 40", STATE, () -> x.job(1));
        check.fails("6: there were 40, a wrong cost", ARGUMENT, () -> x.job(31));
        check.due("6: in their order", x.tick(30), -2);
        check.due("6: in their order", x.tick(1), -3);
        check.fails("6: there were 40, some ended", STATE, () -> x.job(1));
    }

    private void hardAnswers() {
        ServerDesk x = new ServerDesk();
        check.fails("7: not started", STATE, () -> x.hard(1, 1));
        x.rule(3, 0, 0);
        x.start();
        int[][] wrong = {{0, 5}, {31, 5}, {-1, 5}, {1, 0}, {1, -1}, {1, 201}, {1, Integer.MAX_VALUE}};
        for (int[] w : wrong) {
            check.fails("7: hard(" + w[0] + ", " + w[1] + ")", ARGUMENT, () -> x.hard(w[0], w[1]));
        }
        check.due("7: just in time", x.hard(30, 30), 0);
        check.due("7: not in time behind the other", x.hard(5, 34), -1);
        check.due("7: that was no job", x.state(5), 1);
        check.due("7: just in time behind the other", x.hard(5, 35), 1);
        x.tick(20);
        check.due("7: what is still needed counts", x.hard(3, 17), -1);
        check.due("7: what is still needed counts", x.hard(3, 18), 2);
        check.due("7: jobs that are not hard do not count", x.job(30), 3);
        check.due("7: jobs that are not hard do not count", x.hard(1, 19), 4);
        check.due("7: the greatest numbers", x.hard(30, 200), 5);
        ServerDesk y = new ServerDesk();
        y.rule(3, 0, 0);
        y.start();
        for (int i = 0; i < 40; i++) {
            y.job(1);
        }
        check.fails("7: there were 40", STATE, () -> y.hard(1, 200));
        check.fails("7: there were 40, not in time", STATE, () -> y.hard(30, 1));
        check.fails("7: there were 40, a wrong number", ARGUMENT, () -> y.hard(31, 1));
        for (int kind = 0; kind < 3; kind++) {
            ServerDesk z = new ServerDesk();
            z.rule(kind, 1, 5);
            z.start();
            check.fails("7: rule " + kind, STATE, () -> z.hard(1, 200));
            check.fails("7: rule " + kind + ", a wrong number", ARGUMENT, () -> z.hard(1, 201));
        }
    }

    private void hardJobsGoFirst() {
        ServerDesk x = new ServerDesk();
        x.rule(3, 0, 0);
        x.start();
        x.job(3);
        x.tick(1);
        x.hard(2, 9);
        x.job(1);
        x.hard(1, 9);
        x.tick(7);
        traceIs("7: hard ones first", x, -1, -2, -2, -4, -1, -1, -3, 0);
    }

    private void hardEdges() {
        // The task leaves slack at 0 .. 2 and, once it is done at 5, at 5 .. 7: it is 3 again.
        for (int deadline = 1; deadline <= 10; deadline++) {
            ServerDesk x = new ServerDesk();
            x.task(5, 0, 2, 5);
            x.rule(3, 0, 0);
            x.start();
            int most = deadline <= 3 ? deadline : deadline <= 5 ? 3 : deadline <= 8 ? deadline - 2 : 6;
            check.due("7: " + most + " within " + deadline, x.hard(most + 1, deadline), -1);
            check.due("7: " + most + " within " + deadline, x.hard(most, deadline), 0);
            x.tick(deadline);
            check.due("7: and is in time", x.ended(0) >= 1 && x.ended(0) <= deadline, true);
        }
    }

    private void hardByIdleTicks() {
        // At 1 the instance that job 0 put off has no slack any more; it has to run up to 4.
        ServerDesk x = new ServerDesk();
        x.task(10, 0, 3, 4);
        x.rule(3, 0, 0);
        x.start();
        x.job(2);
        x.tick(1);
        check.due("7: no slack", x.slack(), 0);
        check.due("7: no tick within 3", x.hard(1, 3), -1);
        check.due("7: one within 4", x.hard(2, 4), -1);
        check.due("7: one within 4", x.hard(1, 4), 1);
        x.tick(5);
        traceIs("7: after the instance", x, -1, 1, 1, 1, -2, -1);
    }

    private void early() {
        ServerDesk x = new ServerDesk();
        x.task(5, 1, 3, 5);
        x.task(10, 0, 2, 10);
        check.fails("8: not started", STATE, () -> x.early(0, 1));
        check.fails("8: a wrong number comes before", ARGUMENT, () -> x.early(0, 4));
        x.start();
        x.early(0, 2);
        x.early(0, 1);
        x.early(0, 3);
        x.early(1, 1);
        x.tick(4);
        x.early(0, 2);
        x.tick(2);
        // At 6 the instance of this moment is not ready yet: it is the one that is told of.
        x.early(0, 3);
        x.tick(1);
        x.early(0, 1);
        x.tick(10);
        traceIs("8: early", x, 2, 1, 0, 0, 0, 0, 1, 1, 0, 0, 2, 1, 2, 0, 0, 0, 1);
    }

    private void earlyEdges() {
        ServerDesk x = new ServerDesk();
        x.start();
        check.fails("8: no task", ARGUMENT, () -> x.early(0, 1));
        ServerDesk y = new ServerDesk();
        y.task(5, 0, 3, 5);
        y.start();
        int[][] wrong = {{-1, 1}, {1, 1}, {5, 1}, {Integer.MAX_VALUE, 1}, {Integer.MIN_VALUE, 1},
            {0, 0}, {0, -1}, {0, 4}, {0, Integer.MAX_VALUE}};
        for (int[] w : wrong) {
            check.fails("8: early(" + w[0] + ", " + w[1] + ")", ARGUMENT, () -> y.early(w[0], w[1]));
        }
        for (int i = 0; i < 200; i++) {
            y.early(0, 3);
        }
        check.fails("8: 200 were told", STATE, () -> y.early(0, 1));
        check.fails("8: 200 were told, a wrong number", ARGUMENT, () -> y.early(0, 4));
        check.due("8: the one too many is not told", y.tick(3), 1);
        y.tick(3);
        check.fails("8: 200 were told, of others", STATE, () -> y.early(0, 1));
    }

    private void earlyMakesSlack() {
        ServerDesk x = new ServerDesk();
        x.task(6, 0, 4, 6);
        x.rule(3, 0, 0);
        x.start();
        x.job(9);
        x.early(0, 2);
        check.due("8: slack with early", x.slack(), 4);
        x.tick(12);
        traceIs("8: slack with early", x, -1, -1, -1, -1, 1, 1, -1, -1, 1, 1, 1, 1);
        ServerDesk y = new ServerDesk();
        y.task(6, 0, 4, 6);
        y.rule(3, 0, 0);
        y.start();
        check.due("8: not surely in time", y.hard(4, 4), -1);
        y.early(0, 2);
        check.due("8: surely in time", y.hard(4, 4), 0);
        y.tick(4);
        check.due("8: in time", y.ended(0), 4);
    }

    private void ended() {
        ServerDesk x = new ServerDesk();
        check.fails("9: no job", NoSuchElementException.class, () -> x.ended(0));
        x.task(4, 0, 2, 4);
        x.start();
        x.job(3);
        x.job(1);
        check.due("9: not yet", x.ended(0), -1);
        x.tick(6);
        check.due("9: not yet, with one tick to go", x.ended(0), -1);
        x.tick(1);
        check.due("9: behind its last tick", x.ended(0), 7);
        check.due("9: the next not yet", x.ended(1), -1);
        x.tick(10);
        check.due("9: it stays", x.ended(0), 7);
        check.due("9: the next", x.ended(1), 8);
        int[] wrong = {-1, 2, 40, Integer.MIN_VALUE, Integer.MAX_VALUE};
        for (int job : wrong) {
            check.fails("9: ended(" + job + ")", NoSuchElementException.class, () -> x.ended(job));
        }
    }
}
