/** Edges of promises 11, 12 and 14. */
final class LookEdgesTest {
    private static final Class<IndexOutOfBoundsException> INDEX = IndexOutOfBoundsException.class;
    private static final int MIN = Integer.MIN_VALUE;
    private static final int MAX = Integer.MAX_VALUE;

    private final Check check = new Check();
    private final Edges edges = new Edges(check);

    public static void main(String[] args) {
        LookEdgesTest test = new LookEdgesTest();
        test.ticksThatWere();
        test.noSuchTick();
        test.traceIsAsTickTells();
        test.servedWithinTheRun();
        test.servedNotWithinTheRun();
        test.servedCountsJobsAlone();
        test.whatFrom0To7();
        test.stateBeforeTheStart();
        test.stateOfTheLatestReplay();
        test.stateOfTheRun();
        test.lookingChangesNothing();
        test.check.close();
    }

    private void ticksThatWere() {
        ServerDesk x = new ServerDesk();
        check.fails("11: a new object", INDEX, () -> x.trace(0));
        x.task(2, 1, 1, 2);
        check.fails("11: not started", INDEX, () -> x.trace(0));
        x.start();
        check.fails("11: no tick yet", INDEX, () -> x.trace(0));
        x.tick(1);
        check.due("11: the first tick", x.trace(0), 0);
        check.fails("11: behind it", INDEX, () -> x.trace(1));
        x.tick(1);
        check.due("11: the second tick", x.trace(1), 1);
        check.fails("11: behind it", INDEX, () -> x.trace(2));
        Edges.tickTo(x, 2000);
        check.due("11: the first one still", x.trace(0), 0);
        check.due("11: the last but one", x.trace(1998), 0);
        check.due("11: the last of all", x.trace(1999), 1);
        check.fails("11: behind the last of all", INDEX, () -> x.trace(2000));
        x.reset();
        check.fails("11: none since the reset", INDEX, () -> x.trace(0));
        x.start();
        x.tick(1);
        check.due("11: the first one since the reset", x.trace(0), 0);
        check.fails("11: no second one since the reset", INDEX, () -> x.trace(1));
    }

    private void noSuchTick() {
        // The moment of the edges' run is 15.
        int[] wrong = {-1, -2, 15, 16, 1999, 2000, 2001, MIN, MAX};
        for (int moment : wrong) {
            for (int kind = 0; kind < 4; kind++) {
                int rule = kind;
                edges.refused("11: trace(" + moment + ")", INDEX, x -> Edges.run(x, rule), x -> x.trace(moment));
            }
            edges.refused("11: trace(" + moment + "), not started", INDEX, x -> Edges.plan(x, 0),
                    x -> x.trace(moment));
        }
        int[] wrongAtTheEnd = {-1, 2000, 2001, MIN, MAX};
        for (int moment : wrongAtTheEnd) {
            edges.refused("11: trace(" + moment + ") at 2000", INDEX, x -> {
                Edges.run(x, 1);
                Edges.tickTo(x, 2000);
            }, x -> x.trace(moment));
        }
        ServerDesk y = new ServerDesk();
        Edges.run(y, 0);
        check.due("14: the moment", y.state(4), 15);
    }

    private void traceIsAsTickTells() {
        for (int kind = 0; kind < 4; kind++) {
            ServerDesk x = new ServerDesk();
            Edges.run(x, kind);
            int[] told = new int[60];
            for (int i = 0; i < told.length; i++) {
                told[i] = x.tick(1);
            }
            edges.traceIs("11: rule " + kind, x, 15, told);
        }
    }

    private void servedWithinTheRun() {
        ServerDesk x = new ServerDesk();
        check.due("12: a new object", x.served(0, 0), 0);
        x.task(4, 0, 1, 4);
        check.due("12: not started", x.served(0, 0), 0);
        x.start();
        check.due("12: no tick yet", x.served(0, 0), 0);
        x.tick(1);
        x.job(2);
        x.job(2);
        x.tick(6);
        // 1 -1 -1 -2 1 -2 0
        int[] upTo = {0, 0, 1, 2, 3, 3, 4, 4};
        for (int from = 0; from < upTo.length; from++) {
            for (int to = from; to < upTo.length; to++) {
                check.due("12: served(" + from + ", " + to + ")", x.served(from, to), upTo[to] - upTo[from]);
            }
        }
    }

    private void servedNotWithinTheRun() {
        int[][] wrong = {{-1, 0}, {-1, 5}, {0, 16}, {15, 16}, {16, 16}, {1, 0}, {15, 14}, {6, 5},
            {0, -1}, {-1, -1}, {MIN, 0}, {0, MAX}, {MIN, MAX}, {MAX, MAX}, {MAX, MIN}, {0, 2001}};
        for (int[] w : wrong) {
            String call = "12: served(" + w[0] + ", " + w[1] + ")";
            for (int kind = 0; kind < 4; kind++) {
                int rule = kind;
                edges.refused(call, Edges.ARGUMENT, x -> Edges.run(x, rule), x -> x.served(w[0], w[1]));
            }
            edges.refused(call + ", a new object", Edges.ARGUMENT, x -> { }, x -> x.served(w[0], w[1]));
        }
        ServerDesk x = new ServerDesk();
        check.fails("12: to behind now, not started", Edges.ARGUMENT, () -> x.served(0, 1));
        x.start();
        x.job(30);
        Edges.tickTo(x, 2000);
        check.due("12: all of 2000", x.served(0, 2000), 30);
        check.due("12: the end", x.served(2000, 2000), 0);
        check.fails("12: behind the end", Edges.ARGUMENT, () -> x.served(0, 2001));
        check.fails("12: behind the end", Edges.ARGUMENT, () -> x.served(2001, 2001));
        x.reset();
        check.due("12: nothing since the reset", x.served(0, 0), 0);
        check.fails("12: nothing since the reset", Edges.ARGUMENT, () -> x.served(0, 1));
    }

    private void servedCountsJobsAlone() {
        ServerDesk x = new ServerDesk();
        x.task(4, 0, 2, 4);
        x.rule(3, 0, 0);
        x.start();
        x.tick(20);
        check.due("12: tasks and none do not count", x.served(0, 20), 0);
        x.hard(2, 10);
        x.job(1);
        x.tick(20);
        check.due("12: jobs of both sorts count", x.served(20, 40), 3);
    }

    private void whatFrom0To7() {
        int[] wrong = {-1, 8, 9, MIN, MAX};
        for (int what : wrong) {
            edges.refused("14: state(" + what + "), a new object", Edges.ARGUMENT, x -> { }, x -> x.state(what));
            for (int kind = 0; kind < 4; kind++) {
                int rule = kind;
                edges.refused("14: state(" + what + ")", Edges.ARGUMENT, x -> Edges.run(x, rule),
                        x -> x.state(what));
            }
        }
        for (int what = 0; what <= 7; what++) {
            check.due("14: state(" + what + ")", new ServerDesk().state(what), what == 6 ? 1 : 0);
        }
    }

    private void stateBeforeTheStart() {
        for (int kind = 0; kind < 4; kind++) {
            ServerDesk x = new ServerDesk();
            Edges.plan(x, kind);
            for (int what = 0; what <= 7; what++) {
                check.due("14: state(" + what + "), not started", x.state(what), what == 6 ? 60 : 0);
            }
        }
    }

    private void stateOfTheLatestReplay() {
        ServerDesk x = new ServerDesk();
        x.task(10, 0, 4, 10);
        x.start();
        x.job(2);
        x.tick(5);
        for (int what = 0; what <= 3; what++) {
            check.due("14: state(" + what + ") before a replay", x.state(what), 0);
        }
        // 1 1 1 1 -1 in the run, -1 -1 1 1 1 under rule 3.
        x.replay(3);
        check.due("14: ended in the replay", x.state(0), 1);
        check.due("14: the same in the replay", x.state(1), 2);
        check.due("14: late in the replay", x.state(3), 0);
        x.tick(5);
        x.job(1);
        x.tick(1);
        check.due("14: later ticks do not count", x.state(0), 1);
        check.due("14: later ticks do not count", x.state(1), 2);
        // 1 1 1 1 -1 -1 0 0 0 0 1 and -1 -1 1 1 1 1 0 0 0 0 -2
        x.replay(3);
        check.due("14: the latest counts", x.state(0), 2);
        check.due("14: the latest counts", x.state(1), 6);
        x.replay(0);
        check.due("14: the latest counts", x.state(0), 1);
        check.due("14: the latest counts", x.state(1), 11);
    }

    private void stateOfTheRun() {
        ServerDesk x = new ServerDesk();
        x.task(10, 0, 4, 10);
        x.task(12, 0, 2, 12);
        x.rule(2, 1, 10);
        x.start();
        x.job(2);
        check.due("14: in the queue", x.state(5), 1);
        x.tick(1);
        check.due("14: the moment", x.state(4), 1);
        check.due("14: begun, but in the queue", x.state(5), 1);
        check.due("14: left", x.state(7), 0);
        Edges.tickTo(x, 8);
        check.due("14: ended, so not in the queue", x.state(5), 0);
        check.due("9: ended", x.ended(0), 8);
        check.due("14: the hyperperiod", x.state(6), 60);
        Edges.tickTo(x, 2000);
        check.due("14: the last moment", x.state(4), 2000);
        check.due("14: none was late", x.state(2), 0);
    }

    private void lookingChangesNothing() {
        for (int kind = 0; kind < 4; kind++) {
            int rule = kind;
            ServerDesk x = new ServerDesk();
            Edges.run(x, kind);
            for (int i = 0; i <= 7; i++) {
                int what = i;
                edges.leavesAll("14: state(" + what + ")", x.state(what), y -> Edges.run(y, rule),
                        y -> y.state(what));
            }
            edges.leavesAll("11: trace(14)", x.trace(14), y -> Edges.run(y, rule), y -> y.trace(14));
            edges.leavesAll("12: served(0, 15)", x.served(0, 15), y -> Edges.run(y, rule), y -> y.served(0, 15));
        }
    }
}
