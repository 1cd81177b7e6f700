import java.util.Arrays;

/** Edges of the terms RULES (their numbers) and ADMITTED, and of promises 3 and 4. */
final class RuleEdgesTest {
    private static final int MIN = Integer.MIN_VALUE;
    private static final int MAX = Integer.MAX_VALUE;

    private final Check check = new Check();
    private final Edges edges = new Edges(check);

    public static void main(String[] args) {
        RuleEdgesTest test = new RuleEdgesTest();
        test.theEdgesOwnPlanIsAdmitted();
        test.kindsFrom0To3();
        test.budgetAndPeriodFrom1To60();
        test.numbersMeanNothingFor0And3();
        test.noRuleAfterTheStart();
        test.withoutTasksAllIsAdmitted();
        test.atMostTheDeadlineUnder0And3();
        test.atMostTheDeadlineUnder1();
        test.atMostTheDeadlineUnder2();
        test.roundedUpAtAWholePeriod();
        test.greatestBudgets();
        test.eachTaskCounts();
        test.onlyTasksAboveCount();
        test.equalDeadlinesInTheAdmission();
        test.offsetsHaveNoMeaning();
        test.theRuleFromNowOnIfAdmitted();
        test.keptInEitherCase();
        test.startWhenTheRuleIsAdmitted();
        test.startWhenItIsNotAdmittedAnyMore();
        test.startOnce();
        test.check.close();
    }

    private void theEdgesOwnPlanIsAdmitted() {
        for (int kind = 0; kind < 4; kind++) {
            ServerDesk x = new ServerDesk();
            Edges.run(x, kind);
            for (int other = 0; other < 4; other++) {
                int rule = other;
                check.due("the plan under " + other, Check.told(() -> x.replay(rule)).startsWith("t"), false);
            }
        }
    }

    private void refused(int... r) {
        String call = "3: rule" + Arrays.toString(r);
        Edges.Step step = x -> x.rule(r[0], r[1], r[2]);
        edges.refused(call, Edges.ARGUMENT, x -> { }, step);
        edges.refused(call + " with rule 1 told", Edges.ARGUMENT, x -> Edges.plan(x, 1), step);
        edges.refused(call + " with rule 2 told", Edges.ARGUMENT, x -> Edges.plan(x, 2), step);
        edges.refused(call + " in a run", Edges.ARGUMENT, x -> Edges.run(x, 3), step);
    }

    private void kindsFrom0To3() {
        for (int kind = 0; kind < 4; kind++) {
            check.due("3: rule " + kind, new ServerDesk().rule(kind, 1, 1), true);
        }
        refused(-1, 1, 1);
        refused(4, 1, 1);
        refused(MIN, 1, 1);
        refused(MAX, 1, 1);
    }

    private void budgetAndPeriodFrom1To60() {
        int[][] right = {{1, 1}, {1, 2}, {2, 2}, {1, 60}, {59, 60}, {60, 60}, {30, 30}, {29, 30}};
        int[][] wrong = {{0, 1}, {0, 60}, {-1, 5}, {MIN, 5}, {2, 1}, {31, 30}, {6, 5}, {60, 59},
            {1, 61}, {60, 61}, {61, 61}, {61, 60}, {1, 0}, {0, 0}, {-1, -1}, {1, -1}, {1, MIN},
            {1, MAX}, {MAX, MAX}, {MAX, 60}};
        for (int kind = 1; kind <= 2; kind++) {
            for (int[] r : right) {
                ServerDesk x = new ServerDesk();
                check.due("3: rule " + kind + Arrays.toString(r), x.rule(kind, r[0], r[1]), true);
                x.start();
                check.due("3: the budget of rule " + kind + Arrays.toString(r), x.state(7), r[0]);
            }
            for (int[] r : wrong) {
                refused(kind, r[0], r[1]);
            }
        }
    }

    private void numbersMeanNothingFor0And3() {
        int[][] numbers = {{0, 0}, {-1, -1}, {61, 60}, {1, 61}, {5, 4}, {MIN, MAX}, {MAX, MIN}, {2, 3}};
        for (int kind = 0; kind <= 3; kind += 3) {
            int rule = kind;
            for (int[] n : numbers) {
                edges.leavesAll("3: rule " + kind + Arrays.toString(n), 1, x -> Edges.plan(x, rule),
                        x -> x.rule(rule, n[0], n[1]) ? 1 : 0);
            }
        }
    }

    private void noRuleAfterTheStart() {
        for (int kind = 0; kind < 4; kind++) {
            for (int other = 0; other < 4; other++) {
                int old = kind;
                int rule = other;
                edges.refused("3: rule " + other + " after the start", Edges.STATE, x -> Edges.run(x, old),
                        x -> x.rule(rule, 1, 40));
                edges.refused("3: rule " + other + ", not admitted, after the start", Edges.STATE,
                        x -> Edges.run(x, old), x -> x.rule(rule, 60, 60));
            }
        }
    }

    private void withoutTasksAllIsAdmitted() {
        for (int kind = 0; kind < 4; kind++) {
            ServerDesk x = new ServerDesk();
            check.due("3: no tasks, rule " + kind, x.rule(kind, 60, 60), true);
            x.start();
            check.due("4: no tasks, rule " + kind, x.tick(1), 0);
        }
    }

    /** One task above with a cost of 3, and one of a cost of 4: is a rule admitted with both? */
    private boolean admits(int kind, int periodAbove, int deadline) {
        ServerDesk x = new ServerDesk();
        x.task(30, 0, 4, deadline);
        x.task(periodAbove, 0, 3, 3);
        return x.rule(kind, 1, 1);
    }

    private boolean admits(int kind, int budget, int period, int cost, int deadline) {
        ServerDesk x = new ServerDesk();
        x.task(60, 0, cost, deadline);
        return x.rule(kind, budget, period);
    }

    private void atMostTheDeadlineUnder0And3() {
        for (int kind = 0; kind <= 3; kind += 3) {
            // R = 4 + ceil(R / 10) * 3: 4, 7, 7.
            check.due("3: R is the deadline, rule " + kind, admits(kind, 10, 7), true);
            check.due("3: R is one more, rule " + kind, admits(kind, 10, 6), false);
            // R = 4 + ceil(R / 7) * 3: 4, 7, 7; with 6: 4, 7, 10, 10; with 5: 4, 7, 10, 10.
            check.due("3: a whole period, rule " + kind, admits(kind, 7, 7), true);
            check.due("3: one above a period, rule " + kind, admits(kind, 6, 9), false);
            check.due("3: one above a period, rule " + kind, admits(kind, 6, 10), true);
            check.due("3: two whole periods, rule " + kind, admits(kind, 5, 10), true);
            check.due("3: two whole periods, rule " + kind, admits(kind, 5, 9), false);
            // The cost alone.
            check.due("3: the cost is the deadline, rule " + kind, admits(kind, 1, 1, 60, 60), true);
        }
    }

    private void atMostTheDeadlineUnder1() {
        // R = 2 + (1 + ceil(max(0, R - 5) / 60)) * 5: 2, 7, 12, 12.
        check.due("3: rule 1, R is the deadline", admits(1, 5, 60, 2, 12), true);
        check.due("3: rule 1, R is one more", admits(1, 5, 60, 2, 11), false);
        // R = 1 + (1 + ceil(max(0, R - 1) / 60)) * 1: 1, 2, 3, 3.
        check.due("3: rule 1, the least", admits(1, 1, 60, 1, 3), true);
        check.due("3: rule 1, below the least", admits(1, 1, 60, 1, 2), false);
        // R = 5 + (1 + ceil(max(0, R - 5) / 9)) * 5: 5, 10, 15, 20, 20.
        check.due("3: rule 1, R begins at the budget", admits(1, 5, 9, 5, 20), true);
        check.due("3: rule 1, R begins at the budget", admits(1, 5, 9, 5, 19), false);
    }

    private void atMostTheDeadlineUnder2() {
        // R = 4 + ceil(R / 7) * 3: 4, 7, 7.
        check.due("3: rule 2, R is the deadline", admits(2, 3, 7, 4, 7), true);
        check.due("3: rule 2, R is one more", admits(2, 3, 7, 4, 6), false);
        // R = 1 + ceil(R / 60) * 1: 1, 2, 2.
        check.due("3: rule 2, the least", admits(2, 1, 60, 1, 2), true);
        check.due("3: rule 2, below the least", admits(2, 1, 60, 1, 1), false);
    }

    private void roundedUpAtAWholePeriod() {
        // R = 3 + (1 + ceil((R - 2) / 5)) * 2: 3, 7, 7; with a cost of 4: 4, 8, 10, 10.
        check.due("3: rule 1, one period behind the budget", admits(1, 2, 5, 3, 7), true);
        check.due("3: rule 1, one period behind the budget", admits(1, 2, 5, 3, 6), false);
        check.due("3: rule 1, a second period", admits(1, 2, 5, 4, 10), true);
        check.due("3: rule 1, a second period", admits(1, 2, 5, 4, 9), false);
        // R = 4 + ceil(R / 6) * 3: 4, 7, 10, 10; R = 6 + ceil(R / 6) * 3: 6, 9, 12, 12.
        check.due("3: rule 2, a second period", admits(2, 3, 6, 4, 10), true);
        check.due("3: rule 2, a second period", admits(2, 3, 6, 4, 9), false);
        check.due("3: rule 2, two whole periods", admits(2, 3, 6, 6, 12), true);
        check.due("3: rule 2, two whole periods", admits(2, 3, 6, 6, 11), false);
        // One more cost makes it three: 7, 13, 16, 16.
        check.due("3: rule 2, three periods", admits(2, 3, 6, 7, 16), true);
        check.due("3: rule 2, three periods", admits(2, 3, 6, 7, 15), false);
    }

    private void greatestBudgets() {
        check.due("3: rule 2, 59 of 60 and 1", admits(2, 59, 60, 1, 60), true);
        check.due("3: rule 2, 60 of 60 and 1", admits(2, 60, 60, 1, 60), false);
        check.due("3: rule 2, 59 of 60 and 2", admits(2, 59, 60, 2, 60), false);
        check.due("3: rule 2, 1 of 1: no R at all", admits(2, 1, 1, 1, 60), false);
        check.due("3: rule 1, 29 of 60 and 2", admits(1, 29, 60, 2, 60), true);
        check.due("3: rule 1, 29 of 60 and 3", admits(1, 29, 60, 3, 60), false);
        check.due("3: rule 1, 30 of 60 and 1", admits(1, 30, 60, 1, 60), false);
        check.due("3: rule 1, 1 of 1: no R at all", admits(1, 1, 1, 1, 60), false);
    }

    private void eachTaskCounts() {
        // By 2 of 12 under rule 2 each task's R is 2 more: 4, 7 and 12.
        int[][] deadlines = {{4, 7, 12}, {3, 7, 12}, {4, 6, 12}, {4, 7, 11}};
        for (int i = 0; i < deadlines.length; i++) {
            ServerDesk x = new ServerDesk();
            x.task(60, 0, 5, deadlines[i][2]);
            x.task(60, 0, 2, deadlines[i][0]);
            x.task(60, 0, 3, deadlines[i][1]);
            check.due("3: deadlines " + Arrays.toString(deadlines[i]), x.rule(2, 2, 12), i == 0);
            check.due("3: all of them under rule 0", x.rule(0, 0, 0), true);
        }
    }

    private void onlyTasksAboveCount() {
        ServerDesk x = new ServerDesk();
        x.task(60, 0, 50, 55);
        x.task(60, 0, 3, 5);
        check.due("3: what is below does not count", x.rule(2, 2, 60), true);
        ServerDesk y = new ServerDesk();
        y.task(60, 0, 50, 54);
        y.task(60, 0, 3, 5);
        check.due("3: what is above does", y.rule(2, 2, 60), false);
    }

    private void equalDeadlinesInTheAdmission() {
        ServerDesk x = new ServerDesk();
        x.task(10, 0, 3, 5);
        x.task(10, 0, 2, 5);
        check.due("3: equal deadlines, R is 3 and 5", x.rule(0, 0, 0), true);
        ServerDesk y = new ServerDesk();
        y.task(10, 0, 3, 5);
        y.task(10, 0, 3, 5);
        check.due("3: equal deadlines, R is 3 and 6", y.rule(0, 0, 0), false);
        // The one above comes twice in what the one below needs, if it is the first: 4, 7, 10, 10.
        ServerDesk z = new ServerDesk();
        z.task(6, 0, 3, 6);
        z.task(10, 0, 4, 6);
        check.due("3: equal deadlines, the lesser number is above", z.rule(0, 0, 0), false);
        ServerDesk w = new ServerDesk();
        w.task(10, 0, 3, 6);
        w.task(6, 0, 3, 6);
        check.due("3: equal deadlines, R is 3 and 6", w.rule(0, 0, 0), true);
    }

    private void offsetsHaveNoMeaning() {
        for (int kind = 0; kind < 4; kind++) {
            for (int deadline = 2; deadline <= 3; deadline++) {
                for (int offset = 0; offset < 60; offset += 59) {
                    ServerDesk x = new ServerDesk();
                    x.task(60, offset, 1, deadline);
                    boolean want = kind != 1 || deadline == 3;
                    check.due("3: offset " + offset + ", rule " + kind, x.rule(kind, 1, 60), want);
                }
            }
        }
        ServerDesk y = new ServerDesk();
        y.task(10, 0, 3, 5);
        y.task(10, 5, 3, 5);
        check.due("3: offsets that would keep them apart", y.rule(3, 0, 0), false);
    }

    private void theRuleFromNowOnIfAdmitted() {
        for (int kind = 0; kind < 4; kind++) {
            int rule = kind;
            // Both have been told the same, but one of them had the other rule in between.
            edges.sameAfter("3: rule " + kind + " stays", x -> {
                Edges.plan(x, rule);
                x.rule(rule == 1 ? 2 : 1, 60, 60);
            }, x -> {
                x.task(20, 0, 4, 18);
                x.task(30, 2, 3, 30);
                x.task(12, 5, 2, 9);
                x.rule(1, rule == 1 ? 2 : 60, rule == 1 ? 11 : 60);
                x.rule(2, rule == 1 ? 60 : 2, rule == 1 ? 60 : 9);
                x.rule(rule, rule == 1 || rule == 2 ? 2 : 0, rule == 1 ? 11 : 9);
            });
        }
        ServerDesk y = new ServerDesk();
        y.task(60, 0, 1, 2);
        check.due("3: not admitted", y.rule(1, 1, 60), false);
        y.start();
        check.due("3: rule 0 stays: nothing is left", y.state(7), 0);
        check.fails("3: rule 0 stays: no hard jobs", Edges.STATE, () -> y.hard(1, 50));
        ServerDesk z = new ServerDesk();
        z.task(60, 0, 1, 2);
        check.due("3: admitted", z.rule(2, 1, 60), true);
        z.start();
        check.due("3: rule 2 from now on", z.state(7), 1);
        ServerDesk w = new ServerDesk();
        w.rule(1, 5, 6);
        w.rule(3, 0, 0);
        w.start();
        check.due("3: rule 3 from now on: nothing is left", w.state(7), 0);
        check.due("3: rule 3 from now on: hard jobs", w.hard(1, 1), 0);
    }

    private void keptInEitherCase() {
        ServerDesk x = new ServerDesk();
        x.task(60, 0, 10, 14);
        check.due("3: 2 of 60 under rule 2", x.rule(2, 2, 60), true);
        check.due("3: 4 of 60 under rule 2", x.rule(2, 4, 60), true);
        check.due("3: 5 of 60 under rule 2", x.rule(2, 5, 60), false);
        check.due("3: 2 of 60 under rule 1", x.rule(1, 2, 60), true);
        check.due("3: rule 0", x.rule(0, 0, 0), true);
        x.start();
        x.job(6);
        x.tick(30);
        check.fails("13: 5 of 60 is kept", Edges.UNSUPPORTED, () -> x.replay(2));
        // -1 -1, ten ticks of the task, and four more.
        check.due("13: 2 of 60 is kept", x.replay(1), 16);
        ServerDesk y = new ServerDesk();
        y.task(60, 0, 10, 14);
        y.rule(2, 5, 60);
        y.rule(2, 4, 60);
        y.rule(0, 9, 9);
        y.start();
        y.job(4);
        y.tick(30);
        check.due("13: 4 of 60 is kept", y.replay(2), 4);
        check.due("13: 1 of 60, as nothing was told", y.replay(1), 14);
    }

    private void startWhenTheRuleIsAdmitted() {
        for (int kind = 0; kind < 4; kind++) {
            ServerDesk x = new ServerDesk();
            Edges.plan(x, kind);
            x.start();
            check.due("4: moment", x.state(4), 0);
            check.due("4: queue", x.state(5), 0);
            check.fails("4: no job", java.util.NoSuchElementException.class, () -> x.ended(0));
            check.fails("4: no tick", IndexOutOfBoundsException.class, () -> x.trace(0));
            check.due("4: left", x.state(7), kind == 1 || kind == 2 ? 2 : 0);
        }
    }

    private void startWhenItIsNotAdmittedAnyMore() {
        // Each rule's R is the deadline with a cost of 10; one tick more above is too much.
        int[] deadlines = {10, 14, 12, 10};
        for (int kind = 0; kind < 4; kind++) {
            int rule = kind;
            Edges.Step justSo = x -> {
                x.task(60, 0, 10, deadlines[rule]);
                check.due("4: R is the deadline, rule " + rule, x.rule(rule, 2, 60), true);
            };
            ServerDesk x = new ServerDesk();
            justSo.on(x);
            x.task(60, 0, 9, 60);
            x.start();
            check.due("4: a task below does not count", x.tick(1), 1);
            edges.refused("4: a task above makes rule " + kind + " too much", Edges.STATE, y -> {
                justSo.on(y);
                y.task(60, 0, 1, 5);
            }, y -> y.start());
        }
        edges.refused("4: rule 0 of a new object", Edges.STATE, x -> {
            x.task(1, 0, 1, 1);
            x.task(60, 0, 1, 60);
        }, x -> x.start());
        edges.refused("4: told anew and not admitted", Edges.STATE, x -> {
            x.task(60, 0, 10, 14);
            x.rule(2, 4, 60);
            x.rule(2, 5, 60);
        }, x -> x.start());
        ServerDesk y = new ServerDesk();
        y.task(60, 0, 10, 14);
        y.rule(2, 4, 60);
        y.rule(2, 5, 60);
        check.fails("4: refused", Edges.STATE, () -> y.start());
        check.due("4: another number is told", y.rule(2, 3, 60), true);
        y.start();
        check.due("4: and is taken", y.state(7), 3);
    }

    private void startOnce() {
        for (int kind = 0; kind < 4; kind++) {
            int rule = kind;
            edges.refused("4: started, rule " + kind, Edges.STATE, x -> Edges.run(x, rule), x -> x.start());
        }
        edges.refused("4: just started", Edges.STATE, x -> x.start(), x -> x.start());
    }
}
