/** Edges of the term A HARD JOB and of promise 7. */
final class HardEdgesTest {
    private final Check check = new Check();
    private final Edges edges = new Edges(check);

    public static void main(String[] args) {
        HardEdgesTest test = new HardEdgesTest();
        test.costFrom1To30();
        test.deadlineFrom1To200();
        test.notStarted();
        test.notUnderAnotherRule();
        test.atMost40Jobs();
        test.notAcceptedIsNoJob();
        test.atLeastItsCost();
        test.andWhatAllHardOnesStillNeed();
        test.within200Ticks();
        test.jobsThatAreNotHardDoNotCount();
        test.ticksWithSlack();
        test.ticksWithoutAnInstance();
        test.withWhatEarlyTold();
        test.acceptedOnesAreInTime();
        test.nearTheLastMoment();
        test.check.close();
    }

    private static void underRule3(ServerDesk x) {
        x.rule(3, 0, 0);
        x.start();
    }

    private void refused(int cost, int deadline) {
        String call = "7: hard(" + cost + ", " + deadline + ")";
        edges.refused(call, Edges.ARGUMENT, x -> Edges.run(x, 3), x -> x.hard(cost, deadline));
        edges.refused(call + ", rule 0", Edges.ARGUMENT, x -> Edges.run(x, 0), x -> x.hard(cost, deadline));
        edges.refused(call + ", not started", Edges.ARGUMENT, x -> Edges.plan(x, 3),
                x -> x.hard(cost, deadline));
        edges.refused(call + ", 40 jobs", Edges.ARGUMENT, HardEdgesTest::fortyJobs,
                x -> x.hard(cost, deadline));
    }

    private void costFrom1To30() {
        int[] right = {1, 2, 29, 30};
        for (int cost : right) {
            ServerDesk x = new ServerDesk();
            underRule3(x);
            check.due("7: hard(" + cost + ", 200)", x.hard(cost, 200), 0);
            x.tick(40);
            check.due("7: ticks of " + cost, x.served(0, 40), cost);
            check.due("9: the end of " + cost, x.ended(0), cost);
        }
        int[] wrong = {0, -1, 31, Integer.MIN_VALUE, Integer.MAX_VALUE};
        for (int cost : wrong) {
            refused(cost, 200);
            refused(cost, 1);
        }
    }

    private void deadlineFrom1To200() {
        int[] right = {1, 2, 199, 200};
        for (int deadline : right) {
            ServerDesk x = new ServerDesk();
            underRule3(x);
            check.due("7: hard(1, " + deadline + ")", x.hard(1, deadline), 0);
        }
        int[] wrong = {0, -1, 201, 202, Integer.MIN_VALUE, Integer.MAX_VALUE};
        for (int deadline : wrong) {
            refused(1, deadline);
            refused(30, deadline);
        }
    }

    private void notStarted() {
        edges.refused("7: a new object", Edges.STATE, x -> { }, x -> x.hard(1, 1));
        for (int kind = 0; kind < 4; kind++) {
            int rule = kind;
            edges.refused("7: not started", Edges.STATE, x -> Edges.plan(x, rule), x -> x.hard(1, 200));
        }
        edges.refused("7: not started since the reset", Edges.STATE, x -> {
            Edges.run(x, 3);
            x.reset();
        }, x -> x.hard(1, 200));
    }

    private void notUnderAnotherRule() {
        for (int kind = 0; kind < 3; kind++) {
            int rule = kind;
            edges.refused("7: rule " + kind, Edges.STATE, x -> Edges.run(x, rule), x -> x.hard(1, 200));
            edges.refused("7: rule " + kind + ", not in time", Edges.STATE, x -> Edges.run(x, rule),
                    x -> x.hard(30, 1));
        }
        ServerDesk x = new ServerDesk();
        Edges.run(x, 3);
        check.due("7: rule 3", x.hard(1, 200), 4);
    }

    private static void fortyJobs(ServerDesk x) {
        x.task(10, 0, 3, 10);
        underRule3(x);
        for (int i = 0; i < 38; i++) {
            x.job(1);
        }
        x.hard(1, 100);
        x.hard(1, 100);
    }

    private void atMost40Jobs() {
        ServerDesk x = new ServerDesk();
        underRule3(x);
        for (int number = 0; number < 40; number++) {
            check.due("7: numbered with all jobs", x.hard(1, 200), number);
        }
        check.fails("7: a 41st", Edges.STATE, () -> x.hard(1, 200));
        edges.refused("7: a 41st job", Edges.STATE, HardEdgesTest::fortyJobs, y -> y.hard(1, 200));
        edges.refused("7: a 41st job, not in time", Edges.STATE, HardEdgesTest::fortyJobs, y -> y.hard(30, 1));
        edges.refused("7: a 41st job, all ended", Edges.STATE, y -> {
            fortyJobs(y);
            y.tick(100);
        }, y -> y.hard(1, 200));
    }

    private void notAcceptedIsNoJob() {
        edges.leavesAll("7: not accepted", -1, x -> Edges.run(x, 3), x -> x.hard(30, 29));
        edges.leavesAll("7: not accepted, 39 jobs", -1, x -> {
            underRule3(x);
            for (int i = 0; i < 39; i++) {
                x.hard(1, 200);
            }
        }, x -> x.hard(30, 68));
    }

    private void atLeastItsCost() {
        for (int cost = 1; cost <= 30; cost++) {
            ServerDesk x = new ServerDesk();
            underRule3(x);
            if (cost > 1) {
                check.due("7: " + cost + " within one less", x.hard(cost, cost - 1), -1);
            }
            check.due("7: " + cost + " within as many", x.hard(cost, cost), 0);
            x.tick(cost);
            check.due("7: and is in time", x.ended(0), cost);
        }
    }

    private void andWhatAllHardOnesStillNeed() {
        ServerDesk x = new ServerDesk();
        underRule3(x);
        x.hard(10, 200);
        x.hard(5, 200);
        check.due("7: 3 and 15 within 17", x.hard(3, 17), -1);
        check.due("7: 3 and 15 within 18", x.hard(3, 18), 2);
        x.tick(4);
        check.due("7: 2 and 14 within 15", x.hard(2, 15), -1);
        check.due("7: 2 and 14 within 16", x.hard(2, 16), 3);
        x.tick(16);
        check.due("14: none is left", x.state(5), 0);
        check.due("7: 30 and nothing within 29", x.hard(30, 29), -1);
        check.due("7: 30 and nothing within 30", x.hard(30, 30), 4);
    }

    private void within200Ticks() {
        ServerDesk x = new ServerDesk();
        underRule3(x);
        for (int i = 0; i < 6; i++) {
            check.due("7: 30 each within 200", x.hard(30, 200), i);
        }
        check.due("7: 201 within 200", x.hard(21, 200), -1);
        check.due("7: 200 within 200", x.hard(20, 200), 6);
        check.due("7: one more within 200", x.hard(1, 200), -1);
        x.tick(1);
        check.due("7: one more a tick later", x.hard(1, 200), 7);
        check.due("7: and again one more", x.hard(1, 200), -1);
        // A task of 1 in each 2 leaves every other tick: 100 of 200.
        ServerDesk y = new ServerDesk();
        y.task(2, 0, 1, 2);
        underRule3(y);
        for (int i = 0; i < 3; i++) {
            y.hard(30, 200);
        }
        check.due("7: 101 within 200", y.hard(11, 200), -1);
        check.due("7: 100 within 199", y.hard(10, 198), -1);
        check.due("7: 100 within 200", y.hard(10, 200), 3);
    }

    private void jobsThatAreNotHardDoNotCount() {
        ServerDesk x = new ServerDesk();
        underRule3(x);
        for (int i = 0; i < 10; i++) {
            x.job(30);
        }
        x.tick(3);
        check.due("7: 5 within 4", x.hard(5, 4), -1);
        check.due("7: 5 within 5", x.hard(5, 5), 10);
        check.due("7: before all that are not hard", x.tick(5), -11);
        check.due("9: in time", x.ended(10), 8);
        check.due("7: then the one that was begun", x.tick(1), -1);
    }

    private void ticksWithSlack() {
        // Slack at 0 .. 2, then the task at 3 and 4, slack at 5 .. 7, and so on.
        int[] most = {1, 2, 3, 3, 3, 4, 5, 6, 6, 6, 7, 8, 9, 9, 9, 10};
        for (int deadline = 1; deadline <= most.length; deadline++) {
            ServerDesk x = new ServerDesk();
            x.task(5, 0, 2, 5);
            underRule3(x);
            int can = most[deadline - 1];
            check.due("7: " + (can + 1) + " within " + deadline, x.hard(can + 1, deadline), -1);
            check.due("7: " + can + " within " + deadline, x.hard(can, deadline), 0);
        }
        ServerDesk y = new ServerDesk();
        y.task(10, 0, 10, 10);
        underRule3(y);
        check.due("7: never any slack", y.hard(1, 200), -1);
    }

    private void ticksWithoutAnInstance() {
        // No slack before the instance is done at 4.
        ServerDesk x = new ServerDesk();
        x.task(10, 0, 4, 4);
        underRule3(x);
        check.due("10: no slack", x.slack(), 0);
        check.due("7: 1 within 1", x.hard(1, 1), -1);
        check.due("7: 1 within 4", x.hard(1, 4), -1);
        check.due("7: 2 within 5", x.hard(2, 5), -1);
        check.due("7: 1 within 5", x.hard(1, 5), 0);
        check.due("7: 5 more within 10", x.hard(6, 10), -1);
        check.due("7: 5 more within 10", x.hard(5, 10), 1);
        check.due("7: nothing more within 14", x.hard(1, 14), -1);
        check.due("7: one more within 15", x.hard(1, 15), 2);
        x.tick(15);
        check.due("9: in time", x.ended(0), 5);
        check.due("9: in time", x.ended(1), 10);
        check.due("9: in time", x.ended(2), 15);
        // The first tick of the trial is that of this moment, with its instances.
        ServerDesk y = new ServerDesk();
        y.task(10, 5, 5, 5);
        underRule3(y);
        y.tick(4);
        check.due("7: 2 within 2", y.hard(2, 2), -1);
        check.due("7: 1 within 1", y.hard(1, 1), 0);
        y.tick(1);
        check.due("9: in time", y.ended(0), 5);
        check.due("7: 1 within 5, the instance comes now", y.hard(1, 5), -1);
        check.due("7: 1 within 6", y.hard(1, 6), 1);
    }

    private void withWhatEarlyTold() {
        ServerDesk x = new ServerDesk();
        x.task(10, 0, 6, 6);
        underRule3(x);
        check.due("7: nothing told", x.hard(2, 6), -1);
        x.early(0, 5);
        check.due("7: told one less", x.hard(2, 6), -1);
        x.early(0, 4);
        check.due("7: told two less", x.hard(3, 6), -1);
        check.due("7: told two less", x.hard(2, 6), 0);
        // 0, 1 and 6 .. 9 are 6 ticks; the instance at 10 needs its cost again, in the trial too.
        check.due("7: 2 and 5 within 10", x.hard(5, 10), -1);
        check.due("7: 2 and 5 within 16", x.hard(5, 16), -1);
        x.tick(6);
        check.due("9: in time", x.ended(0), 2);
        check.due("7: 4 from 6 on up to 16", x.hard(5, 10), -1);
        check.due("7: 4 from 6 on up to 16", x.hard(4, 10), 1);
    }

    private void acceptedOnesAreInTime() {
        int[][] plans = {{12, 3, 4, 7}, {10, 0, 5, 9}, {15, 7, 3, 3}};
        ServerDesk x = new ServerDesk();
        for (int[] p : plans) {
            x.task(p[0], p[1], p[2] - 2, p[3]);
        }
        underRule3(x);
        int[] due = new int[40];
        int count = 0;
        for (int i = 0; i < 100 && count < 38; i++) {
            int deadline = 1 + i * 7 % 23;
            int number = x.hard(1 + i % 5, deadline);
            if (number >= 0) {
                due[number] = x.state(4) + deadline;
                count = number + 1;
            }
            x.tick(1 + i % 4);
        }
        x.tick(100);
        for (int number = 0; number < count; number++) {
            check.due("7: in time", x.ended(number) > 0 && x.ended(number) <= due[number], true);
        }
        check.due("7: many were accepted", count > 10, true);
        check.due("14: no instance was late", x.state(2), 0);
    }

    private void nearTheLastMoment() {
        ServerDesk x = new ServerDesk();
        x.task(10, 0, 5, 10);
        underRule3(x);
        Edges.tickTo(x, 1999);
        check.due("7: within one tick", x.hard(2, 1), -1);
        check.due("7: within one tick", x.hard(1, 1), 0);
        x.tick(1);
        check.due("9: in time", x.ended(0), 2000);
        // What would be served within these ticks has no end at 2000.
        check.due("7: at 2000, 6 within 10", x.hard(6, 10), -1);
        check.due("7: at 2000, 5 within 10", x.hard(5, 10), 1);
        check.due("9: there is no tick for it", x.ended(1), -1);
    }
}
