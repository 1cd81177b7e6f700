/** Promises 10 to 14: slack, trace, served, replay and state. */
final class LookTest {
    private static final Class<IllegalArgumentException> ARGUMENT = IllegalArgumentException.class;
    private static final Class<IllegalStateException> STATE = IllegalStateException.class;
    private static final Class<IndexOutOfBoundsException> INDEX = IndexOutOfBoundsException.class;
    private static final Class<UnsupportedOperationException> UNSUPPORTED =
            UnsupportedOperationException.class;

    private final Check check = new Check();

    public static void main(String[] args) {
        LookTest test = new LookTest();
        test.slackEdges();
        test.slackOfOneTask();
        test.slackOfLaterInstances();
        test.slackUnderOtherRules();
        test.trace();
        test.served();
        test.replayEdges();
        test.replayUnderEachRule();
        test.replayOfHardJobs();
        test.replayOfEarlyOnes();
        test.replayOfWhatDoesNotEnd();
        test.state();
        test.check.close();
    }

    private void slackEdges() {
        ServerDesk x = new ServerDesk();
        check.fails("10: not started", STATE, () -> x.slack());
        x.start();
        check.due("10: without tasks", x.slack(), 1000);
        x.job(5);
        x.tick(7);
        check.due("10: without tasks, later", x.slack(), 1000);
        // No tick is ever free.
        ServerDesk y = new ServerDesk();
        y.task(1, 0, 1, 1);
        y.start();
        check.due("10: none", y.slack(), 0);
        y.tick(9);
        check.due("10: none, later", y.slack(), 0);
        // From 5 on no tick is free, before it all are.
        ServerDesk z = new ServerDesk();
        z.task(10, 5, 10, 10);
        z.start();
        check.due("10: up to the offset", z.slack(), 5);
        z.tick(4);
        check.due("10: the last one", z.slack(), 1);
        z.tick(1);
        check.due("10: from the offset on", z.slack(), 0);
    }

    private void slackOfOneTask() {
        ServerDesk x = new ServerDesk();
        x.task(60, 0, 1, 60);
        x.start();
        check.due("10: before it is ready", x.slack(), 59);
        x.tick(1);
        check.due("10: up to the end of the next one", x.slack(), 118);
        x.tick(59);
        check.due("10: reckoned with before it is ready", x.slack(), 59);
        ServerDesk y = new ServerDesk();
        y.task(10, 4, 3, 5);
        y.start();
        int[] want = {6, 5, 4, 3, 2, 2, 2, 9, 8, 7, 6};
        for (int moment = 0; moment < want.length; moment++) {
            check.due("10: slack at " + moment, y.slack(), want[moment]);
            y.tick(1);
        }
    }

    private void slackOfLaterInstances() {
        // The task below is not ready before 5, but the ones above take all but one of its ticks.
        ServerDesk x = new ServerDesk();
        x.task(10, 5, 2, 5);
        x.task(5, 0, 2, 4);
        x.start();
        check.due("10: at 0", x.slack(), 2);
        x.tick(2);
        check.due("10: at 2", x.slack(), 4);
        x.tick(3);
        check.due("10: at 5", x.slack(), 1);
        x.early(0, 1);
        check.due("10: at 5, early", x.slack(), 2);
        x.early(1, 1);
        check.due("10: at 5, both early", x.slack(), 3);
        x.tick(1);
        x.early(0, 1);
        check.due("10: early ones of later instances", x.slack(), 3);
    }

    private void slackUnderOtherRules() {
        ServerDesk x = new ServerDesk();
        x.task(8, 0, 3, 8);
        x.rule(1, 2, 8);
        x.start();
        check.due("10: under rule 1", x.slack(), 5);
        x.job(2);
        check.due("10: jobs do not count", x.slack(), 5);
        x.tick(1);
        check.due("10: under rule 1, a job had a tick", x.slack(), 4);
    }

    private void trace() {
        ServerDesk x = new ServerDesk();
        check.fails("11: not started", INDEX, () -> x.trace(0));
        x.task(4, 0, 1, 4);
        x.start();
        check.fails("11: no tick yet", INDEX, () -> x.trace(0));
        x.tick(1);
        x.job(2);
        x.tick(4);
        int[] want = {1, -1, -1, 0, 1};
        for (int moment = 0; moment < want.length; moment++) {
            check.due("11: trace(" + moment + ")", x.trace(moment), want[moment]);
        }
        int[] wrong = {-1, 5, 2000, Integer.MIN_VALUE, Integer.MAX_VALUE};
        for (int moment : wrong) {
            check.fails("11: trace(" + moment + ")", INDEX, () -> x.trace(moment));
        }
        for (int i = 0; i < 19; i++) {
            x.tick(100);
        }
        x.tick(95);
        check.due("11: the last of all", x.trace(1999), 0);
        check.fails("11: behind the last of all", INDEX, () -> x.trace(2000));
    }

    private void served() {
        ServerDesk x = new ServerDesk();
        check.due("12: not started", x.served(0, 0), 0);
        x.task(4, 0, 1, 4);
        x.start();
        x.job(2);
        x.job(2);
        x.tick(7);
        // 1 -1 -1 -2 1 -2 0
        check.due("12: all", x.served(0, 7), 4);
        check.due("12: none", x.served(3, 3), 0);
        check.due("12: from is counted", x.served(1, 2), 1);
        check.due("12: to is not", x.served(0, 1), 0);
        check.due("12: some", x.served(2, 6), 3);
        check.due("12: at the end", x.served(7, 7), 0);
        int[][] wrong = {{-1, 3}, {4, 3}, {0, 8}, {8, 8}, {Integer.MIN_VALUE, 0}, {0, Integer.MAX_VALUE}};
        for (int[] w : wrong) {
            check.fails("12: served(" + w[0] + ", " + w[1] + ")", ARGUMENT, () -> x.served(w[0], w[1]));
        }
    }

    private void replayEdges() {
        ServerDesk x = new ServerDesk();
        check.fails("13: not started", STATE, () -> x.replay(0));
        check.fails("13: no such rule, not started", ARGUMENT, () -> x.replay(-1));
        x.task(4, 0, 2, 4);
        x.rule(1, 2, 4);
        x.rule(2, 3, 4);
        x.start();
        check.due("13: nothing was", x.replay(0), 0);
        x.job(3);
        check.due("13: no tick was", x.replay(3), 0);
        check.due("13: none ended", x.state(0), 0);
        x.tick(6);
        check.due("13: rule 0", x.replay(0), 0);
        check.due("13: the same ticks", x.state(1), 6);
        check.fails("13: rule 1 is not admitted", UNSUPPORTED, () -> x.replay(1));
        check.fails("13: rule 2 is not admitted", UNSUPPORTED, () -> x.replay(2));
        check.due("13: the latest is the one before", x.state(1), 6);
        int[] wrong = {-1, 4, Integer.MIN_VALUE, Integer.MAX_VALUE};
        for (int kind : wrong) {
            check.fails("13: replay(" + kind + ")", ARGUMENT, () -> x.replay(kind));
        }
        x.tick(1);
        check.due("13: rule 0 up to now", x.replay(0), 7);
        check.due("13: the run is as it was", x.ended(0), 7);
    }

    private void replayUnderEachRule() {
        ServerDesk x = new ServerDesk();
        x.task(10, 0, 4, 10);
        check.due("13: told for 1", x.rule(1, 2, 6), true);
        check.due("13: told for 2", x.rule(2, 1, 3), true);
        check.due("13: rule 0", x.rule(0, 0, 0), true);
        x.start();
        x.job(3);
        x.tick(2);
        x.job(2);
        x.tick(10);
        // 0: 1 1 1 1 -1 -1 -1 -2 -2 0 1 1
        check.due("13: rule 0", x.replay(0), 7 + 7);
        check.due("13: ended, rule 0", x.state(0), 2);
        check.due("13: same, rule 0", x.state(1), 12);
        // 1: -1 -1 1 1 1 1 -1 -2 -2 0 1 1
        check.due("13: rule 1", x.replay(1), 7 + 7);
        check.due("13: same, rule 1", x.state(1), 2 + 1 + 1 + 1 + 1 + 2);
        // 2: -1 1 1 -1 1 1 -1 -2 -2 0 1 1
        check.due("13: rule 2", x.replay(2), 7 + 7);
        check.due("13: same, rule 2", x.state(1), 2 + 1 + 1 + 1 + 1 + 2);
        // 3: -1 -1 -1 -2 -2 1 1 1 1 0 1 1
        check.due("13: rule 3", x.replay(3), 3 + 3);
        check.due("13: same, rule 3", x.state(1), 3);
        check.due("13: late, rule 3", x.state(3), 0);
        check.due("13: the run is as it was", x.trace(0), 1);
        check.due("13: its moment too", x.state(4), 12);
        check.due("13: and what is left", x.state(7), 0);
    }

    private void replayOfHardJobs() {
        ServerDesk x = new ServerDesk();
        x.task(10, 0, 3, 10);
        x.rule(3, 0, 0);
        x.start();
        x.job(2);
        x.hard(2, 5);
        x.tick(9);
        check.due("13: the hard one is done first", x.ended(1), 2);
        // 0: 1 1 1 -2 -2 -1 -1
        check.due("13: hard under rule 0 too", x.replay(0), 7 + 5);
        check.due("13: both ended", x.state(0), 2);
        // 1 with 1 and 60: -2 1 1 1 -2 -1 -1
        check.due("13: hard under rule 1 too", x.replay(1), 7 + 5);
        check.due("13: same", x.state(1), 1 + 2);
        check.due("13: as it was", x.replay(3), 4 + 2);
        check.due("13: all the same", x.state(1), 9);
    }

    private void replayOfEarlyOnes() {
        ServerDesk x = new ServerDesk();
        x.task(5, 0, 3, 5);
        x.start();
        x.early(0, 2);
        x.tick(1);
        x.early(0, 1);
        x.early(0, 2);
        x.job(5);
        x.tick(9);
        // 0: 1 1 -1 -1 -1 1 -1 -1 0 0
        check.due("13: early in the run", x.ended(0), 8);
        check.due("13: early, rule 0", x.replay(0), 7);
        check.due("13: early, same", x.state(1), 10);
        // 3: 1 -1 -1 -1 1 -1 -1 1 0 0, since at 1 the next one needs 1 alone
        check.due("13: early, rule 3", x.replay(3), 6);
        check.due("13: early, same under 3", x.state(1), 1 + 2 + 1 + 2);
        // Nobody knew at 0 of what was told at 1.
        ServerDesk y = new ServerDesk();
        y.task(5, 0, 3, 5);
        y.start();
        y.job(9);
        y.tick(3);
        y.early(0, 1);
        y.tick(7);
        // 3: -1 -1 1 1 1 -1 -1 -1 -1 1
        y.replay(3);
        // 0: 1 1 1 -1 -1 1 -1 -1 -1 -1
        check.due("13: each at its moment", y.state(1), 1 + 3);
    }

    private void replayOfWhatDoesNotEnd() {
        ServerDesk x = new ServerDesk();
        x.rule(1, 1, 9);
        x.start();
        x.job(2);
        x.tick(1);
        x.job(30);
        x.tick(5);
        check.due("13: only those that end", x.replay(1), 2);
        check.due("14: how many ended", x.state(0), 1);
        x.tick(60);
        check.due("14: as it was in the latest replay", x.state(0), 1);
        check.due("14: as it was in the latest replay", x.state(1), 6);
        check.due("13: both end now", x.replay(0), 2 + 31);
        check.due("14: both ended", x.state(0), 2);
        check.due("14: all are the same", x.state(1), 66);
    }

    private void state() {
        ServerDesk x = new ServerDesk();
        int[] wrong = {-1, 8, Integer.MIN_VALUE, Integer.MAX_VALUE};
        for (int what : wrong) {
            check.fails("14: state(" + what + ")", ARGUMENT, () -> x.state(what));
        }
        x.task(4, 0, 1, 3);
        x.task(6, 0, 2, 6);
        x.rule(2, 1, 6);
        x.start();
        x.job(1);
        x.job(3);
        x.tick(4);
        check.due("14: late", x.state(2), 0);
        check.due("14: moment", x.state(4), 4);
        check.due("14: queue", x.state(5), 1);
        check.due("14: hyperperiod", x.state(6), 12);
        check.due("14: left", x.state(7), 0);
        check.due("14: the replay's numbers before one", x.state(0) + x.state(1) + x.state(3), 0);
        x.tick(20);
        check.due("14: queue empty", x.state(5), 0);
        check.due("14: left at the end", x.state(7), 1);
    }
}
