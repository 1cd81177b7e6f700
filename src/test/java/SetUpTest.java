/** Promises 1 to 4 and 15: what is done before a start, and the way back to it. */
final class SetUpTest {
    private static final Class<IllegalArgumentException> ARGUMENT = IllegalArgumentException.class;
    private static final Class<IllegalStateException> STATE = IllegalStateException.class;
    private static final Class<UnsupportedOperationException> UNSUPPORTED =
            UnsupportedOperationException.class;

    private final Check check = new Check();

    public static void main(String[] args) {
        SetUpTest test = new SetUpTest();
        test.aNewObject();
        test.aNewObjectsFirstStart();
        test.tasksAndTheirNumbers();
        test.wrongTasks();
        test.hyperperiod();
        test.priority();
        test.ruleRanges();
        test.admissionOfBackgroundAndSlack();
        test.admissionOfDeferrable();
        test.admissionOfSporadic();
        test.admissionAmongTasks();
        test.whichRuleIsTheRule();
        test.whatIsKeptForARule();
        test.start();
        test.resetBeforeAndAfterStart();
        test.check.close();
    }

    private void aNewObject() {
        isAsAtFirst("1: new", new ServerDesk());
    }

    private void isAsAtFirst(String when, ServerDesk x) {
        int[] want = {0, 0, 0, 0, 0, 0, 1, 0};
        for (int what = 0; what < want.length; what++) {
            check.due(when + ": state(" + what + ")", x.state(what), want[what]);
        }
        check.fails(when + ": tick", STATE, () -> x.tick(1));
        check.fails(when + ": job", STATE, () -> x.job(1));
        check.fails(when + ": hard", STATE, () -> x.hard(1, 1));
        check.fails(when + ": early", ARGUMENT, () -> x.early(0, 1));
        check.fails(when + ": slack", STATE, () -> x.slack());
        check.fails(when + ": replay", STATE, () -> x.replay(0));
        check.fails(when + ": ended", java.util.NoSuchElementException.class, () -> x.ended(0));
        check.fails(when + ": trace", IndexOutOfBoundsException.class, () -> x.trace(0));
        check.due(when + ": served", x.served(0, 0), 0);
        check.fails(when + ": served", ARGUMENT, () -> x.served(0, 1));
    }

    private void aNewObjectsFirstStart() {
        ServerDesk x = new ServerDesk();
        x.start();
        check.fails("1: rule 0 takes no hard job", STATE, () -> x.hard(1, 5));
        check.due("1: tick with nothing to do", x.tick(1), 0);
    }

    private void tasksAndTheirNumbers() {
        ServerDesk x = new ServerDesk();
        for (int i = 0; i < 5; i++) {
            check.due("2: task", x.task(60, 59, 1 + i, 60 - i), i);
        }
        check.fails("2: a sixth task", STATE, () -> x.task(60, 0, 1, 60));
        check.fails("2: a sixth task with a wrong number", ARGUMENT, () -> x.task(60, 60, 1, 60));
        check.fails("2: a sixth task above 2000", STATE, () -> x.task(59, 0, 1, 59));
        ServerDesk y = new ServerDesk();
        check.due("2: the least task", y.task(1, 0, 1, 1), 0);
        check.due("2: the greatest task", y.task(60, 59, 60, 60), 1);
        y.reset();
        y.start();
        check.fails("2: task after the start", STATE, () -> y.task(5, 0, 1, 5));
        check.fails("2: wrong task after the start", ARGUMENT, () -> y.task(61, 0, 1, 5));
    }

    private void wrongTasks() {
        int[][] wrong = {
            {0, 0, 1, 1}, {-1, 0, 1, 1}, {61, 0, 1, 1}, {5, -1, 1, 5}, {5, 5, 1, 5}, {5, 0, 0, 5},
            {5, 0, -1, 5}, {60, 0, 61, 61}, {5, 0, 6, 6}, {5, 0, 3, 2}, {5, 0, 3, 6}, {5, 0, 3, -3},
            {Integer.MIN_VALUE, 0, 1, 1}, {Integer.MAX_VALUE, 0, 1, 1}, {5, 0, 1, Integer.MAX_VALUE},
        };
        ServerDesk x = new ServerDesk();
        for (int[] w : wrong) {
            check.fails("2: wrong task " + java.util.Arrays.toString(w), ARGUMENT,
                    () -> x.task(w[0], w[1], w[2], w[3]));
        }
        check.due("2: wrong ones have no number", x.task(5, 4, 3, 3), 0);
    }

    private void hyperperiod() {
        ServerDesk x = new ServerDesk();
        x.task(36, 0, 1, 36);
        check.due("2: hyperperiod of one", x.state(6), 36);
        x.task(55, 0, 1, 55);
        check.due("2: hyperperiod of 36 and 55", x.state(6), 1980);
        x.task(30, 0, 1, 30);
        check.due("2: hyperperiod with 30 too", x.state(6), 1980);
        check.fails("2: hyperperiod above 2000", UNSUPPORTED, () -> x.task(40, 0, 1, 40));
        check.due("2: hyperperiod after a refusal", x.state(6), 1980);
        check.due("2: the number after a refusal", x.task(12, 0, 1, 12), 3);
        check.fails("2: a wrong number comes before", ARGUMENT, () -> x.task(40, 40, 1, 40));
        ServerDesk y = new ServerDesk();
        y.task(40, 0, 1, 40);
        check.fails("2: hyperperiod of 2040", UNSUPPORTED, () -> y.task(51, 0, 1, 51));
    }

    private void priority() {
        ServerDesk x = new ServerDesk();
        x.task(10, 0, 2, 10);
        x.task(10, 0, 2, 5);
        x.task(10, 0, 1, 5);
        x.task(20, 1, 1, 1);
        x.start();
        x.tick(12);
        int[] want = {2, 4, 2, 3, 1, 1, 0, 0, 0, 0, 2, 2};
        for (int moment = 0; moment < want.length; moment++) {
            check.due("2: priority at " + moment, x.trace(moment), want[moment]);
        }
    }

    private void ruleRanges() {
        ServerDesk x = new ServerDesk();
        int[][] wrong = {
            {-1, 1, 1}, {4, 1, 1}, {Integer.MIN_VALUE, 1, 1}, {Integer.MAX_VALUE, 1, 1},
            {1, 0, 5}, {1, -1, 5}, {1, 6, 5}, {1, 1, 61}, {1, 1, 0}, {1, 61, 61}, {1, 0, 0},
            {2, 0, 5}, {2, -1, 5}, {2, 6, 5}, {2, 1, 61}, {2, 1, 0}, {2, 61, 61}, {2, 0, 0},
        };
        for (int[] w : wrong) {
            check.fails("3: wrong rule " + java.util.Arrays.toString(w), ARGUMENT,
                    () -> x.rule(w[0], w[1], w[2]));
        }
        check.due("3: numbers mean nothing for 0", x.rule(0, -7, 1000), true);
        check.due("3: numbers mean nothing for 3", x.rule(3, 61, -61), true);
        check.due("3: the greatest numbers, 1", x.rule(1, 60, 60), true);
        check.due("3: the greatest numbers, 2", x.rule(2, 60, 60), true);
        check.due("3: the least numbers", x.rule(1, 1, 1), true);
        x.start();
        check.fails("3: rule after the start", STATE, () -> x.rule(0, 0, 0));
        check.fails("3: wrong rule after the start", ARGUMENT, () -> x.rule(4, 0, 0));
    }

    private void admissionOfBackgroundAndSlack() {
        ServerDesk x = new ServerDesk();
        x.task(4, 0, 2, 4);
        x.task(4, 0, 2, 4);
        check.due("3: just in time, rule 0", x.rule(0, 0, 0), true);
        check.due("3: just in time, rule 3", x.rule(3, 0, 0), true);
        x.task(4, 3, 1, 4);
        check.due("3: too much, rule 0", x.rule(0, 0, 0), false);
        check.due("3: too much, rule 3", x.rule(3, 0, 0), false);
        // Offsets would keep these two apart, but have no meaning for the admission.
        ServerDesk y = new ServerDesk();
        y.task(10, 0, 3, 5);
        y.task(10, 5, 3, 5);
        check.due("3: offsets have no meaning", y.rule(0, 0, 0), false);
    }

    private void admissionOfDeferrable() {
        // R = 3 + (1 + ceil((R - 2) / 5)) * 2: 3, 7, 7.
        ServerDesk x = new ServerDesk();
        x.task(10, 0, 3, 7);
        check.due("3: deferrable, R is the deadline", x.rule(1, 2, 5), true);
        check.due("3: deferrable, R is 9 with period 4", x.rule(1, 2, 4), false);
        ServerDesk y = new ServerDesk();
        y.task(10, 0, 3, 6);
        check.due("3: deferrable, R is above the deadline", y.rule(1, 2, 5), false);
        // R = 4 + (1 + ceil((R - 2) / 5)) * 2: 4, 8, then ceil(6 / 5) is 2: 10, and ceil(8 / 5) too.
        ServerDesk z = new ServerDesk();
        z.task(10, 0, 4, 10);
        check.due("3: deferrable, a second period", z.rule(1, 2, 5), true);
        ServerDesk w = new ServerDesk();
        w.task(10, 0, 4, 9);
        check.due("3: deferrable, a second period too late", w.rule(1, 2, 5), false);
    }

    private void admissionOfSporadic() {
        // R = 3 + ceil(R / 5) * 2: 3, 5, 5.
        ServerDesk x = new ServerDesk();
        x.task(10, 0, 3, 5);
        check.due("3: sporadic, R is the deadline", x.rule(2, 2, 5), true);
        check.due("3: sporadic, R is 7 with period 4", x.rule(2, 2, 4), false);
        check.due("3: deferrable is dearer", x.rule(1, 2, 5), false);
        ServerDesk y = new ServerDesk();
        y.task(10, 0, 4, 7);
        check.due("3: sporadic, R is 8, above the deadline", y.rule(2, 2, 5), false);
        ServerDesk z = new ServerDesk();
        z.task(10, 0, 4, 8);
        check.due("3: sporadic, R is 8", z.rule(2, 2, 5), true);
    }

    private void admissionAmongTasks() {
        // The task below has R = 3 + ceil(R / 4) * 1 + ceil(R / 6) * 1: 3, 5, 6, 6.
        ServerDesk x = new ServerDesk();
        x.task(12, 0, 3, 6);
        x.task(4, 0, 1, 4);
        check.due("3: two tasks and sporadic", x.rule(2, 1, 6), true);
        check.due("3: two tasks and sporadic, more often", x.rule(2, 1, 5), false);
        // With the server at 1 of 12 deferrable: 3, 3 + 1 + 2 = 6, 3 + 2 + 2 = 7 is above 6.
        check.due("3: two tasks and deferrable", x.rule(1, 1, 12), false);
        check.due("3: the rule above all can be too much", x.rule(2, 60, 60), false);
    }

    private void whichRuleIsTheRule() {
        ServerDesk x = new ServerDesk();
        x.task(10, 0, 3, 7);
        check.due("3: admitted", x.rule(1, 2, 5), true);
        check.due("3: not admitted", x.rule(2, 8, 9), false);
        x.start();
        check.due("3: the one before is still the rule", x.state(7), 2);
        ServerDesk y = new ServerDesk();
        check.due("3: rule 1", y.rule(1, 2, 5), true);
        check.due("3: rule 2 is the later one", y.rule(2, 3, 5), true);
        y.start();
        check.due("3: the later one is the rule", y.state(7), 3);
    }

    private void whatIsKeptForARule() {
        ServerDesk x = new ServerDesk();
        x.task(10, 0, 3, 7);
        check.due("3: admitted", x.rule(2, 1, 5), true);
        check.due("3: kept though not admitted", x.rule(2, 8, 9), false);
        // 8 and 9 are what rule 2 has now, and rule 2 is still the rule.
        check.fails("4: the rule is not admitted any more", STATE, () -> x.start());
        check.due("3: another rule", x.rule(0, 0, 0), true);
        x.start();
        check.fails("13: what was told last", UNSUPPORTED, () -> x.replay(2));
        check.due("13: rule 1 with 1 and 60", x.replay(1), 0);
    }

    private void start() {
        ServerDesk x = new ServerDesk();
        x.rule(1, 4, 5);
        check.due("4: nothing is left before the start", x.state(7), 0);
        x.task(5, 0, 2, 5);
        check.fails("4: not admitted any more", STATE, () -> x.start());
        check.due("4: so told again", x.rule(1, 1, 5), true);
        x.start();
        check.due("4: moment", x.state(4), 0);
        check.due("4: queue", x.state(5), 0);
        check.due("4: left", x.state(7), 1);
        check.fails("4: started", STATE, () -> x.start());
        ServerDesk y = new ServerDesk();
        y.task(2, 0, 2, 2);
        y.task(2, 0, 1, 2);
        check.fails("4: rule 0 is not admitted", STATE, () -> y.start());
        check.fails("4: it has not started", STATE, () -> y.tick(1));
    }

    private void resetBeforeAndAfterStart() {
        ServerDesk x = new ServerDesk();
        x.task(6, 0, 2, 6);
        x.rule(2, 1, 12);
        x.reset();
        isAsAtFirst("15: reset before the start", x);
        x.task(4, 1, 1, 4);
        x.rule(1, 1, 3);
        x.rule(3, 0, 0);
        x.start();
        x.job(5);
        x.hard(3, 20);
        x.early(0, 1);
        x.tick(50);
        x.job(9);
        x.replay(1);
        check.due("15: something to forget", x.state(0), 2);
        x.reset();
        isAsAtFirst("15: reset after the start", x);
        check.due("15: the first task again", x.task(3, 2, 2, 2), 0);
        x.start();
        check.fails("15: rule 0 again", STATE, () -> x.hard(1, 100));
        check.due("15: the first job again", x.job(2), 0);
        check.due("15: its end", x.ended(0), -1);
        x.tick(5);
        int[] want = {-1, -1, 1, 1, 0};
        for (int moment = 0; moment < want.length; moment++) {
            check.due("15: trace(" + moment + ")", x.trace(moment), want[moment]);
        }
        for (int told = 0; told < 200; told++) {
            x.early(0, 1);
        }
        x.reset();
        // Nothing of rule 1 with 1 and 3 is left: 1 and 60 serves one tick above the task.
        x.task(10, 0, 4, 10);
        x.start();
        x.job(2);
        x.tick(20);
        check.due("15: what was told for a rule is gone", x.replay(1), 6);
    }
}
