import java.util.Arrays;

/** Edges of the terms TASKS, HYPERPERIOD, INSTANCE and PRIORITY, and of promise 2. */
final class TaskEdgesTest {
    private static final int MIN = Integer.MIN_VALUE;
    private static final int MAX = Integer.MAX_VALUE;

    private final Check check = new Check();
    private final Edges edges = new Edges(check);

    public static void main(String[] args) {
        TaskEdgesTest test = new TaskEdgesTest();
        test.periodFrom1To60();
        test.offsetFrom0ToBeforeThePeriod();
        test.costFrom1To60();
        test.deadlineFromTheCostToThePeriod();
        test.atMostFiveTasks();
        test.noTaskAfterTheStart();
        test.hyperperiodAtMost2000();
        test.hyperperiodOfAFewTasks();
        test.whichExceptionComesFirst();
        test.instancesAtTheOffsetAndEachPeriod();
        test.costIsWhatAnInstanceNeeds();
        test.doneAtTheDeadlineIsInTime();
        test.theLesserDeadlineIsAbove();
        test.ofEqualDeadlinesTheLesserNumber();
        test.check.close();
    }

    private void taken(int... t) {
        ServerDesk x = new ServerDesk();
        check.due("2: task" + Arrays.toString(t), x.task(t[0], t[1], t[2], t[3]), 0);
        check.due("2: the period of " + Arrays.toString(t), x.state(6), t[0]);
        ServerDesk y = new ServerDesk();
        Edges.plan(y, 0);
        check.due("2: a fourth task" + Arrays.toString(t), y.task(t[0], t[1], t[2], t[3]), 3);
    }

    /** Refused on a new desk, on one with other tasks, and on one that has started. */
    private void refused(int... t) {
        String call = "2: task" + Arrays.toString(t);
        Edges.Step step = x -> x.task(t[0], t[1], t[2], t[3]);
        edges.refused(call, Edges.ARGUMENT, x -> { }, step);
        edges.refused(call + " as a fourth", Edges.ARGUMENT, x -> Edges.plan(x, 1), step);
        edges.refused(call + " in a run", Edges.ARGUMENT, x -> Edges.run(x, 3), step);
    }

    private void periodFrom1To60() {
        taken(1, 0, 1, 1);
        taken(2, 0, 1, 2);
        taken(60, 0, 1, 60);
        refused(0, 0, 1, 1);
        refused(0, 0, 1, 0);
        refused(-1, 0, 1, 1);
        refused(-1, -1, 1, 1);
        refused(61, 0, 1, 61);
        refused(61, 0, 1, 1);
        refused(MIN, 0, 1, 1);
        refused(MAX, 0, 1, 1);
        refused(MAX, 0, 1, MAX);
    }

    private void offsetFrom0ToBeforeThePeriod() {
        taken(60, 59, 1, 60);
        taken(7, 6, 1, 7);
        taken(7, 0, 1, 7);
        refused(60, 60, 1, 60);
        refused(7, 7, 1, 7);
        refused(7, 8, 1, 7);
        refused(7, 14, 1, 7);
        refused(1, 1, 1, 1);
        refused(1, -1, 1, 1);
        refused(60, -1, 1, 60);
        refused(60, MIN, 1, 60);
        refused(60, MAX, 1, 60);
    }

    private void costFrom1To60() {
        taken(60, 0, 60, 60);
        taken(60, 0, 59, 60);
        refused(60, 0, 0, 60);
        refused(60, 0, 0, 0);
        refused(60, 0, -1, 60);
        refused(60, 0, -1, -1);
        refused(60, 0, 61, 60);
        refused(60, 0, 61, 61);
        refused(60, 0, MIN, 60);
        refused(60, 0, MAX, 60);
        refused(60, 0, MAX, MAX);
    }

    private void deadlineFromTheCostToThePeriod() {
        taken(20, 0, 5, 5);
        taken(20, 0, 5, 6);
        taken(20, 0, 5, 19);
        taken(20, 0, 5, 20);
        taken(20, 0, 20, 20);
        taken(20, 0, 1, 1);
        refused(20, 0, 5, 4);
        refused(20, 0, 5, 21);
        refused(20, 0, 20, 19);
        refused(20, 0, 20, 21);
        refused(20, 0, 21, 21);
        refused(20, 0, 21, 20);
        refused(20, 0, 1, 0);
        refused(20, 0, 1, -1);
        refused(20, 0, 1, MIN);
        refused(20, 0, 1, MAX);
        refused(60, 0, 1, 61);
    }

    private static void fiveTasks(ServerDesk x) {
        for (int i = 0; i < 5; i++) {
            x.task(20 + 20 * (i % 2), i, 1, 20 - i);
        }
    }

    private void atMostFiveTasks() {
        ServerDesk x = new ServerDesk();
        for (int number = 0; number < 5; number++) {
            check.due("2: numbered as they come", x.task(30, 0, 1, 30 - number), number);
        }
        check.fails("2: a sixth", Edges.STATE, () -> x.task(30, 0, 1, 30));
        edges.refused("2: a sixth task", Edges.STATE, TaskEdgesTest::fiveTasks, y -> y.task(40, 0, 1, 40));
        edges.refused("2: a sixth task of another period", Edges.STATE, TaskEdgesTest::fiveTasks,
                y -> y.task(60, 0, 1, 60));
        x.start();
        check.due("2: all five run", x.tick(5), 1);
        edges.traceIs("2: all five run", x, 0, 5, 4, 3, 2, 1);
    }

    private void noTaskAfterTheStart() {
        for (int kind = 0; kind < 4; kind++) {
            int rule = kind;
            edges.refused("2: task after the start", Edges.STATE, x -> Edges.run(x, rule),
                    x -> x.task(20, 0, 1, 20));
        }
        edges.refused("2: a first task after the start", Edges.STATE, x -> x.start(),
                x -> x.task(20, 0, 1, 20));
        ServerDesk y = new ServerDesk();
        y.task(1, 0, 1, 1);
        y.task(1, 0, 1, 1);
        check.fails("4: too much", Edges.STATE, () -> y.start());
        check.due("2: a start that was refused is none", y.task(1, 0, 1, 1), 2);
    }

    private void hyperperiodAtMost2000() {
        // No periods up to 60 have 1999 or 2000, so 1998 and 2001 are next to the edge.
        ServerDesk x = new ServerDesk();
        check.due("14: without tasks", x.state(6), 1);
        x.task(37, 0, 1, 37);
        check.due("2: 1998 is taken", x.task(54, 0, 1, 54), 1);
        check.due("14: 37 and 54", x.state(6), 1998);
        check.due("2: 27 is in it", x.task(27, 0, 1, 27), 2);
        check.fails("2: 3996 is refused", Edges.UNSUPPORTED, () -> x.task(4, 0, 1, 4));
        check.due("14: after the refusal", x.state(6), 1998);
        check.due("2: the number after the refusal", x.task(37, 0, 1, 37), 3);
        Edges.Step coprime = y -> {
            y.task(23, 0, 1, 23);
            y.task(29, 0, 1, 29);
        };
        edges.refused("2: 2001 is refused", Edges.UNSUPPORTED, coprime, y -> y.task(3, 0, 1, 3));
        ServerDesk z = new ServerDesk();
        coprime.on(z);
        check.due("2: 1334 is taken", z.task(2, 0, 1, 2), 2);
        check.due("14: 23, 29 and 2", z.state(6), 1334);
        edges.refused("2: 2040 is refused", Edges.UNSUPPORTED, y -> y.task(40, 0, 1, 40),
                y -> y.task(51, 0, 1, 51));
        edges.refused("2: 3540 is refused", Edges.UNSUPPORTED, y -> y.task(60, 0, 1, 60),
                y -> y.task(59, 0, 1, 59));
    }

    private void hyperperiodOfAFewTasks() {
        // Each period with what the hyperperiod is then.
        int[][] runs = {{60, 60}, {1, 1, 60, 60}, {6, 6, 4, 12, 9, 36}, {45, 45, 44, 1980},
            {32, 32, 60, 480}, {59, 59, 33, 1947}, {8, 8, 12, 24, 20, 120, 50, 600, 16, 1200}};
        for (int[] run : runs) {
            ServerDesk x = new ServerDesk();
            for (int i = 0; i < run.length; i += 2) {
                x.task(run[i], 0, 1, 1);
                check.due("14: hyperperiod with " + run[i], x.state(6), run[i + 1]);
            }
        }
    }

    private void whichExceptionComesFirst() {
        edges.refused("2: a wrong number, five tasks", Edges.ARGUMENT, TaskEdgesTest::fiveTasks,
                x -> x.task(61, 0, 1, 1));
        edges.refused("2: five tasks, above 2000", Edges.STATE, TaskEdgesTest::fiveTasks,
                x -> x.task(59, 0, 1, 59));
        edges.refused("2: started, above 2000", Edges.STATE, x -> Edges.run(x, 0),
                x -> x.task(59, 0, 1, 59));
        edges.refused("2: a wrong number, above 2000", Edges.ARGUMENT, x -> Edges.plan(x, 0),
                x -> x.task(59, 0, 1, 60));
    }

    private void instancesAtTheOffsetAndEachPeriod() {
        int[][] tasks = {{7, 0, 1, 1}, {7, 6, 1, 1}, {60, 59, 1, 1}, {1, 0, 1, 1}, {2, 1, 1, 1}};
        for (int[] t : tasks) {
            ServerDesk x = new ServerDesk();
            x.task(t[0], t[1], t[2], t[3]);
            x.start();
            Edges.tickTo(x, 2000);
            for (int moment = 0; moment < 2000; moment += moment == 130 ? 1740 : 1) {
                int want = moment % t[0] == t[1] ? 1 : 0;
                check.due("2: instances of " + Arrays.toString(t) + " at " + moment, x.trace(moment), want);
            }
        }
    }

    private void costIsWhatAnInstanceNeeds() {
        ServerDesk x = new ServerDesk();
        x.task(60, 0, 60, 60);
        x.start();
        x.job(1);
        Edges.tickTo(x, 200);
        check.due("2: a cost of the whole period leaves nothing", x.served(0, 200), 0);
        ServerDesk y = new ServerDesk();
        y.task(60, 0, 59, 60);
        y.start();
        y.job(3);
        Edges.tickTo(y, 180);
        for (int moment = 58; moment < 180; moment++) {
            check.due("2: a cost of one less leaves one at " + moment, y.trace(moment), moment % 60 == 59 ? -1 : 1);
        }
    }

    private void doneAtTheDeadlineIsInTime() {
        ServerDesk x = new ServerDesk();
        x.task(8, 0, 3, 3);
        x.task(8, 0, 2, 5);
        x.start();
        x.tick(16);
        edges.traceIs("2: done at their deadlines", x, 0, 1, 1, 1, 2, 2, 0, 0, 0, 1, 1, 1, 2, 2);
        check.due("14: none was late", x.state(2), 0);
        x.replay(3);
        check.due("14: none was late in the replay", x.state(3), 0);
        ServerDesk y = new ServerDesk();
        y.task(4, 0, 2, 4);
        y.task(4, 0, 2, 4);
        y.start();
        y.tick(40);
        check.due("14: done when the next one comes", y.state(2), 0);
    }

    private void theLesserDeadlineIsAbove() {
        // The lesser deadline, not the lesser period, offset, cost or number.
        ServerDesk x = new ServerDesk();
        x.task(20, 0, 2, 8);
        x.task(40, 0, 3, 7);
        x.start();
        x.tick(8);
        edges.traceIs("2: deadlines 8 and 7", x, 0, 2, 2, 2, 1, 1, 0);
        ServerDesk y = new ServerDesk();
        y.task(20, 0, 6, 20);
        y.task(20, 3, 2, 19);
        y.start();
        y.tick(9);
        edges.traceIs("2: the one above comes later", y, 0, 1, 1, 1, 2, 2, 1, 1, 1, 0);
    }

    private void ofEqualDeadlinesTheLesserNumber() {
        ServerDesk x = new ServerDesk();
        x.task(20, 2, 2, 10);
        x.task(40, 0, 4, 10);
        x.task(10, 3, 1, 10);
        x.start();
        x.tick(9);
        edges.traceIs("2: equal deadlines", x, 0, 2, 2, 1, 1, 2, 2, 3, 0, 0);
    }
}
