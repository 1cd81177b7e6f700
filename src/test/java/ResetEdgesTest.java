/** Edges of promises 1 and 15, and of the 512 calls of an object. */
final class ResetEdgesTest {
    private final Check check = new Check();
    private final Edges edges = new Edges(check);

    public static void main(String[] args) {
        ResetEdgesTest test = new ResetEdgesTest();
        test.aNewObjectHasNoTasks();
        test.aNewObjectHasRule0();
        test.aNewObjectHasNotStarted();
        test.resetOfANewObject();
        test.resetOfAPlan();
        test.resetOfARun();
        test.resetOfAFullObject();
        test.resetOf200EarlyOnes();
        test.resetAfterARefusedStart();
        test.resetForgetsTheRulesNumbers();
        test.resetForgetsWhatHardOnesNeed();
        test.aRunAfterAReset();
        test.objectsAreApart();
        test.the512thCall();
        test.check.close();
    }

    private void aNewObjectHasNoTasks() {
        ServerDesk x = new ServerDesk();
        check.due("1: the hyperperiod without tasks", x.state(6), 1);
        check.fails("1: no task to tell of", Edges.ARGUMENT, () -> x.early(0, 1));
        check.due("1: the first task's number", x.task(5, 0, 1, 5), 0);
        ServerDesk y = new ServerDesk();
        y.start();
        check.due("1: the slack without tasks", y.slack(), 1000);
        check.due("1: nobody runs", y.tick(100), 0);
    }

    private void aNewObjectHasRule0() {
        ServerDesk x = new ServerDesk();
        x.task(5, 0, 2, 5);
        x.start();
        x.job(1);
        check.fails("1: not rule 3", Edges.STATE, () -> x.hard(1, 100));
        check.due("1: nothing is left", x.state(7), 0);
        x.tick(3);
        edges.traceIs("1: a job when no instance is ready", x, 0, 1, 1, -1);
        edges.sameAfter("1: rule 0 told or not", y -> {
            y.task(5, 0, 2, 5);
            y.rule(0, 0, 0);
        }, y -> y.task(5, 0, 2, 5));
    }

    private void aNewObjectHasNotStarted() {
        ServerDesk x = new ServerDesk();
        check.fails("1: tick", Edges.STATE, () -> x.tick(1));
        check.fails("1: job", Edges.STATE, () -> x.job(1));
        check.fails("1: hard", Edges.STATE, () -> x.hard(1, 1));
        check.fails("1: slack", Edges.STATE, () -> x.slack());
        check.fails("1: replay", Edges.STATE, () -> x.replay(0));
        check.due("1: a task is taken", x.task(5, 0, 1, 5), 0);
        check.due("1: a rule is taken", x.rule(0, 0, 0), true);
        x.start();
        check.fails("1: no task any more", Edges.STATE, () -> x.task(5, 0, 1, 5));
        check.fails("1: no rule any more", Edges.STATE, () -> x.rule(0, 0, 0));
        check.fails("1: no start any more", Edges.STATE, () -> x.start());
    }

    private void resetOfANewObject() {
        edges.sameAfter("15: reset of a new object", x -> x.reset(), x -> { });
        edges.sameAfter("15: two resets", x -> {
            x.reset();
            x.reset();
        }, x -> { });
    }

    private void resetOfAPlan() {
        for (int kind = 0; kind < 4; kind++) {
            int rule = kind;
            edges.sameAfter("15: reset of a plan, rule " + kind, x -> {
                Edges.plan(x, rule);
                x.reset();
            }, x -> { });
        }
    }

    private void resetOfARun() {
        for (int kind = 0; kind < 4; kind++) {
            int rule = kind;
            edges.sameAfter("15: reset of a start, rule " + kind, x -> {
                Edges.plan(x, rule);
                x.start();
                x.reset();
            }, x -> { });
            edges.sameAfter("15: reset of a run, rule " + kind, x -> {
                Edges.run(x, rule);
                x.reset();
            }, x -> { });
        }
    }

    private void resetOfAFullObject() {
        edges.sameAfter("15: reset of 5 tasks, 40 jobs and 2000 ticks", x -> {
            for (int i = 0; i < 5; i++) {
                x.task(50, i, 2, 40);
            }
            x.rule(3, 0, 0);
            x.start();
            for (int i = 0; i < 40; i++) {
                x.job(30);
            }
            for (int i = 0; i < 20; i++) {
                x.tick(100);
            }
            x.replay(2);
            x.reset();
        }, x -> { });
    }

    private void resetOf200EarlyOnes() {
        ServerDesk x = new ServerDesk();
        for (int turn = 0; turn < 2; turn++) {
            x.task(10, 0, 4, 10);
            x.start();
            for (int i = 0; i < 200; i++) {
                x.early(0, 4);
            }
            check.fails("8: a 201st", Edges.STATE, () -> x.early(0, 4));
            check.due("15: what was told before is gone", x.slack(), 6);
            x.reset();
        }
        // Told of the next instance, and then reset: it needs its cost.
        x.task(10, 0, 4, 10);
        x.start();
        x.early(0, 1);
        x.reset();
        x.task(10, 0, 4, 10);
        x.start();
        check.due("15: what was told before is gone", x.slack(), 6);
    }

    private void resetAfterARefusedStart() {
        edges.sameAfter("15: reset after a refused start", x -> {
            x.task(1, 0, 1, 1);
            x.task(1, 0, 1, 1);
            check.fails("4: too much", Edges.STATE, () -> x.start());
            x.reset();
        }, x -> { });
    }

    private void resetForgetsTheRulesNumbers() {
        ServerDesk x = new ServerDesk();
        x.task(60, 0, 20, 60);
        x.rule(1, 5, 20);
        x.rule(2, 60, 60);
        x.reset();
        x.task(60, 0, 20, 60);
        x.start();
        x.job(2);
        x.tick(60);
        // 1 of 60 again: one tick at 0, the next one behind the task.
        check.due("15: 1 of 60 for rule 1", x.replay(1), 22);
        check.due("15: 1 of 60 for rule 2", x.replay(2), 22);
    }

    private void resetForgetsWhatHardOnesNeed() {
        for (int count = 1; count <= 3; count++) {
            ServerDesk x = new ServerDesk();
            x.rule(3, 0, 0);
            x.start();
            for (int i = 0; i < count; i++) {
                x.hard(30, 200);
            }
            x.tick(7);
            x.reset();
            x.rule(3, 0, 0);
            x.start();
            for (int number = 0; number < 4; number++) {
                check.due("15: one tick too few", x.hard(2, number + 1), -1);
                check.due("15: just as many ticks", x.hard(1, number + 1), number);
            }
        }
    }

    private void aRunAfterAReset() {
        for (int kind = 0; kind < 4; kind++) {
            for (int other = 0; other < 4; other++) {
                int before = kind;
                int rule = other;
                edges.sameAfter("15: rule " + other + " after rule " + kind + ", jobs not done", x -> {
                    Edges.run(x, before);
                    x.reset();
                    Edges.run(x, rule);
                }, x -> Edges.run(x, rule));
                edges.sameAfter("15: rule " + other + " after rule " + kind, x -> {
                    Edges.run(x, before);
                    x.tick(77);
                    x.reset();
                    Edges.run(x, rule);
                }, x -> Edges.run(x, rule));
            }
        }
    }

    private void objectsAreApart() {
        edges.sameAfter("1: another object changes nothing", x -> {
            Edges.run(x, 1);
            ServerDesk other = new ServerDesk();
            Edges.run(other, 3);
            other.tick(50);
            other.reset();
        }, x -> Edges.run(x, 1));
    }

    private void the512thCall() {
        ServerDesk x = new ServerDesk();
        x.task(4, 0, 1, 4);
        x.start();
        for (int call = 3; call <= 510; call++) {
            x.tick(1);
        }
        check.due("the 511th call", x.state(4), 508);
        check.due("the 512th call", x.tick(1), 1);
    }
}
