/** Edges of promise 13. */
final class ReplayEdgesTest {
    private final Check check = new Check();
    private final Edges edges = new Edges(check);

    public static void main(String[] args) {
        ReplayEdgesTest test = new ReplayEdgesTest();
        test.kindsFrom0To3();
        test.notStarted();
        test.notAdmitted();
        test.notAdmittedWithoutNumbers();
        test.budget1AndPeriod60();
        test.whatWasToldLast();
        test.upToNow();
        test.atMoment0();
        test.eachAtItsMoment();
        test.onlyThoseThatEnd();
        test.hardOnesAreHardUnderEachRule();
        test.theSameRuleGivesTheSameRun();
        test.theRunIsAsItWas();
        test.atTheLastMoment();
        test.check.close();
    }

    private void kindsFrom0To3() {
        int[] wrong = {-1, 4, 5, Integer.MIN_VALUE, Integer.MAX_VALUE};
        for (int kind : wrong) {
            for (int rule = 0; rule < 4; rule++) {
                int now = rule;
                edges.refused("13: replay(" + kind + ")", Edges.ARGUMENT, x -> Edges.run(x, now),
                        x -> x.replay(kind));
            }
            edges.refused("13: replay(" + kind + "), not started", Edges.ARGUMENT, x -> Edges.plan(x, 0),
                    x -> x.replay(kind));
            edges.refused("13: replay(" + kind + "), a new object", Edges.ARGUMENT, x -> { },
                    x -> x.replay(kind));
        }
        for (int kind = 0; kind < 4; kind++) {
            ServerDesk x = new ServerDesk();
            x.start();
            x.job(2);
            x.tick(3);
            check.due("13: replay(" + kind + ")", x.replay(kind), 2);
        }
    }

    private void notStarted() {
        for (int kind = 0; kind < 4; kind++) {
            int rule = kind;
            edges.refused("13: a new object", Edges.STATE, x -> { }, x -> x.replay(rule));
            edges.refused("13: not started", Edges.STATE, x -> Edges.plan(x, rule), x -> x.replay(rule));
            edges.refused("13: not started and not admitted", Edges.STATE, x -> {
                x.task(1, 0, 1, 1);
                x.task(1, 0, 1, 1);
            }, x -> x.replay(rule));
            edges.refused("13: not started since the reset", Edges.STATE, x -> {
                Edges.run(x, rule);
                x.reset();
            }, x -> x.replay(rule));
        }
    }

    private void notAdmitted() {
        for (int kind = 1; kind <= 2; kind++) {
            int rule = kind;
            edges.refused("13: rule " + kind + " is not admitted", Edges.UNSUPPORTED, x -> {
                x.task(10, 0, 4, 8);
                x.rule(rule, 5, 10);
                x.start();
                x.job(3);
                x.tick(12);
                x.replay(3);
            }, x -> x.replay(rule));
        }
        // R = 4 + 2 * 2 under rule 1 and 4 + 4 under rule 2 is the deadline; one more is too much.
        int[] most = {0, 2, 4};
        for (int kind = 1; kind <= 2; kind++) {
            for (int more = 0; more <= 1; more++) {
                ServerDesk x = new ServerDesk();
                x.task(20, 0, 4, 8);
                check.due("3: admitted", x.rule(kind, most[kind] + more, 20), more == 0);
                x.rule(0, 0, 0);
                x.start();
                x.job(1);
                x.tick(7);
                int rule = kind;
                String want = more == 0 ? "1" : "throws.UnsupportedOperationException";
                check.same("13: rule " + kind, Check.told(() -> x.replay(rule)), want);
            }
        }
    }

    private void notAdmittedWithoutNumbers() {
        // 1 of 60: R is 10 + 2 under rule 1, and 10 + 1 under rule 2.
        for (int deadline = 10; deadline <= 12; deadline++) {
            ServerDesk x = new ServerDesk();
            x.task(60, 0, 10, deadline);
            x.start();
            check.same("13: rule 1, deadline " + deadline, Check.told(() -> x.replay(1)),
                    deadline >= 12 ? "0" : "throws.UnsupportedOperationException");
            check.same("13: rule 2, deadline " + deadline, Check.told(() -> x.replay(2)),
                    deadline >= 11 ? "0" : "throws.UnsupportedOperationException");
            check.due("13: rule 3, deadline " + deadline, x.replay(3), 0);
        }
        edges.refused("13: 1 of 60 is not admitted", Edges.UNSUPPORTED, x -> {
            x.task(60, 0, 10, 10);
            x.start();
            x.job(3);
            x.tick(12);
            x.replay(0);
        }, x -> x.replay(2));
    }

    private ServerDesk jobsAt(int... moments) {
        ServerDesk x = new ServerDesk();
        x.task(60, 0, 58, 60);
        x.start();
        for (int moment : moments) {
            Edges.tickTo(x, moment);
            x.job(1);
        }
        Edges.tickTo(x, 120);
        return x;
    }

    private void budget1AndPeriod60() {
        // A job that is not served at once waits for 59 or 119, where no instance is ready.
        for (int kind = 1; kind <= 2; kind++) {
            check.due("13: one tick, rule " + kind, jobsAt(0).replay(kind), 1);
            check.due("13: no second one, rule " + kind, jobsAt(0, 1).replay(kind), 1 + 59);
            check.due("13: one more at 60, rule " + kind, jobsAt(0, 60).replay(kind), 1 + 1);
            check.due("13: and no second one, rule " + kind, jobsAt(0, 60, 61).replay(kind), 1 + 1 + 59);
        }
        check.due("13: used at 5, for rule 1 back at 60", jobsAt(5, 60).replay(1), 1 + 1);
        check.due("13: used at 5, for rule 2 back at 65", jobsAt(5, 60).replay(2), 1 + 6);
        check.due("13: used at 5, for rule 2 back at 65", jobsAt(5, 65).replay(2), 1 + 1);
        check.due("13: used at 5, for rule 2 back at 65", jobsAt(5, 64).replay(2), 1 + 2);
    }

    private void whatWasToldLast() {
        ServerDesk x = new ServerDesk();
        x.task(60, 0, 20, 60);
        x.rule(1, 1, 10);
        x.rule(1, 3, 10);
        x.rule(2, 3, 10);
        x.rule(2, 60, 60);
        x.rule(2, 2, 10);
        x.rule(0, 1, 1);
        x.start();
        x.job(4);
        x.tick(40);
        // -1 -1 -1 1 1 1 1 1 1 1 -1, and -1 -1 1 1 1 1 1 1 1 1 -1 -1
        check.due("13: 3 of 10 for rule 1", x.replay(1), 11);
        check.due("13: 2 of 10 for rule 2", x.replay(2), 12);
        check.due("13: rule 0", x.replay(0), 24);
        check.due("13: rule 3", x.replay(3), 4);
    }

    private void upToNow() {
        ServerDesk x = new ServerDesk();
        x.task(10, 0, 4, 10);
        x.start();
        x.job(3);
        x.tick(2);
        check.due("13: one tick to go", x.replay(3), 0);
        check.due("14: none ended", x.state(0), 0);
        x.tick(1);
        check.due("13: the last tick was the one before now", x.replay(3), 3);
        check.due("14: one ended", x.state(0), 1);
        check.due("14: none was the same", x.state(1), 0);
        x.tick(3);
        check.due("13: rule 0, one tick to go", x.replay(0), 0);
        x.tick(1);
        check.due("13: rule 0, its last tick", x.replay(0), 7);
    }

    private void atMoment0() {
        for (int kind = 0; kind < 4; kind++) {
            ServerDesk x = new ServerDesk();
            Edges.plan(x, 3);
            x.start();
            check.due("13: nothing at all", x.replay(kind), 0);
            x.job(1);
            x.hard(1, 50);
            x.early(0, 1);
            check.due("13: no tick yet", x.replay(kind), 0);
            check.due("14: none ended", x.state(0), 0);
            check.due("14: none the same", x.state(1), 0);
        }
    }

    private void eachAtItsMoment() {
        for (int kind = 0; kind < 4; kind++) {
            ServerDesk x = new ServerDesk();
            x.start();
            x.job(2);
            x.tick(7);
            x.job(1);
            x.job(2);
            x.tick(1);
            x.job(1);
            x.tick(10);
            // -1 -1, none, then at 7 -2, at 8 and 9 -3, at 10 -4.
            check.due("13: not before they arrive, rule " + kind, x.replay(kind), 2 + 1 + 3 + 3);
            check.due("14: all ended", x.state(0), 4);
            check.due("14: all the same", x.state(1), 18);
        }
    }

    private void onlyThoseThatEnd() {
        ServerDesk x = new ServerDesk();
        x.task(10, 0, 9, 10);
        x.start();
        x.job(1);
        x.job(1);
        x.job(1);
        x.tick(10);
        check.due("13: one under rule 0", x.replay(0), 10);
        check.due("14: one under rule 0", x.state(0), 1);
        check.due("13: one under rule 3 too", x.replay(3), 1);
        check.due("14: one under rule 3 too", x.state(0), 1);
        x.tick(10);
        check.due("13: two under rule 0", x.replay(0), 10 + 20);
        check.due("14: two under rule 0", x.state(0), 2);
    }

    private void hardOnesAreHardUnderEachRule() {
        for (int kind = 0; kind < 4; kind++) {
            ServerDesk x = new ServerDesk();
            x.rule(3, 0, 0);
            x.start();
            x.job(3);
            x.tick(1);
            x.hard(2, 10);
            x.job(1);
            x.hard(1, 10);
            x.tick(10);
            // -1 -2 -2 -4 -1 -1 -3
            check.due("13: rule " + kind, x.replay(kind), 6 + 2 + 6 + 3);
            check.due("14: all the same", x.state(1), 11);
        }
        // One that was not accepted is no job in a replay either.
        ServerDesk y = new ServerDesk();
        y.rule(3, 0, 0);
        y.start();
        y.job(2);
        y.hard(9, 8);
        y.tick(10);
        check.due("13: the job alone", y.replay(0), 2);
    }

    private void theSameRuleGivesTheSameRun() {
        for (int kind = 0; kind < 4; kind++) {
            ServerDesk x = new ServerDesk();
            Edges.run(x, kind);
            x.tick(90);
            int sum = 0;
            int ended = 0;
            int[] arrivals = {0, 13, 13, 13};
            for (int job = 0; job < (kind == 3 ? 4 : 3); job++) {
                sum += x.ended(job) - arrivals[job];
                ended++;
            }
            check.due("13: the sum of the run, rule " + kind, x.replay(kind), sum);
            check.due("14: all that ended", x.state(0), ended);
            check.due("14: all the same", x.state(1), 105);
        }
    }

    private void theRunIsAsItWas() {
        for (int kind = 0; kind < 4; kind++) {
            int rule = kind;
            ServerDesk x = new ServerDesk();
            Edges.run(x, kind);
            edges.leavesAll("13: replays of all rules", x.replay(0), y -> {
                Edges.run(y, rule);
                y.replay(0);
            }, y -> {
                y.replay(1);
                y.replay(2);
                y.replay(3);
                return y.replay(0);
            });
        }
    }

    private void atTheLastMoment() {
        for (int kind = 0; kind < 4; kind++) {
            ServerDesk x = new ServerDesk();
            x.task(60, 0, 5, 60);
            x.rule(kind, 1, 60);
            x.start();
            x.job(1);
            Edges.tickTo(x, 1999);
            x.job(1);
            x.job(1);
            x.tick(1);
            // The task is at work at 0 .. 4 under rule 0, and not at 1999.
            check.due("13: all of 2000, rule " + kind, x.replay(kind), (kind == 0 ? 6 : 1) + 1);
            check.due("14: the third did not end", x.state(0), 2);
            check.due("14: all the same", x.state(1), 2000);
        }
    }
}
