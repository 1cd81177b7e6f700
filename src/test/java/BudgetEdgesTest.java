/** Edges of the rules 1 and 2: what is left of the budget, what comes back at a moment, and when. */
final class BudgetEdgesTest {
    private final Check check = new Check();
    private final Edges edges = new Edges(check);

    public static void main(String[] args) {
        BudgetEdgesTest test = new BudgetEdgesTest();
        test.theBudgetAtFirst();
        test.nothingIsLeftUnder0And3();
        test.oneForEachTick();
        test.deferrableComesBackAtEachPeriod();
        test.deferrableSavesNothing();
        test.deferrableWithTheGreatestPeriod();
        test.deferrableWithTheLeastPeriod();
        test.sporadicComesBackAPeriodLater();
        test.sporadicTickByTick();
        test.sporadicNeverAboveTheBudget();
        test.sporadicWithTheGreatestNumbers();
        test.sporadicWithTheLeastPeriod();
        test.backgroundTicksAreNotUsed();
        test.idleTicksAreUsedWhileSomethingIsLeft();
        test.bothUpToTheLastMoment();
        test.check.close();
    }

    private ServerDesk desk(int kind, int budget, int period, int cost) {
        ServerDesk x = new ServerDesk();
        if (cost > 0) {
            x.task(60, 0, cost, 60);
        }
        check.due("3: admitted", x.rule(kind, budget, period), true);
        x.start();
        return x;
    }

    private void leftIs(ServerDesk x, int want) {
        check.due("14: left at " + x.state(4), x.state(7), want);
    }

    private void theBudgetAtFirst() {
        for (int kind = 1; kind <= 2; kind++) {
            for (int budget = 1; budget <= 60; budget += budget == 1 ? 58 : 1) {
                ServerDesk x = new ServerDesk();
                x.rule(kind, budget, 60);
                leftIs(x, 0);
                x.start();
                leftIs(x, budget);
            }
        }
    }

    private void nothingIsLeftUnder0And3() {
        for (int kind = 0; kind <= 3; kind += 3) {
            ServerDesk x = new ServerDesk();
            x.rule(1, 5, 9);
            x.rule(2, 6, 9);
            x.rule(kind, 7, 9);
            x.start();
            leftIs(x, 0);
            x.job(3);
            x.tick(2);
            leftIs(x, 0);
            x.tick(20);
            leftIs(x, 0);
            x.replay(1);
            leftIs(x, 0);
        }
    }

    private void oneForEachTick() {
        for (int kind = 1; kind <= 2; kind++) {
            ServerDesk x = desk(kind, 3, 10, 20);
            x.job(2);
            x.job(5);
            for (int left = 2; left >= 0; left--) {
                x.tick(1);
                leftIs(x, left);
            }
            x.tick(1);
            leftIs(x, 0);
            edges.traceIs("5: down to 0, rule " + kind, x, 0, -1, -1, -2, 1);
        }
    }

    private void deferrableComesBackAtEachPeriod() {
        ServerDesk x = desk(1, 2, 10, 30);
        x.job(30);
        x.tick(9);
        leftIs(x, 0);
        check.due("5: at 9 for the task", x.tick(1), 1);
        // Within the tick of moment 10 it comes back, not before it.
        leftIs(x, 0);
        check.due("5: at 10 for the job", x.tick(1), -1);
        leftIs(x, 1);
        check.due("5: at 11 for the job", x.tick(1), -1);
        leftIs(x, 0);
        check.due("5: at 12 for the task", x.tick(1), 1);
        check.due("5: at 19 for the task", x.tick(7), 1);
        check.due("5: at 20 for the job", x.tick(1), -1);
        leftIs(x, 1);
    }

    private void deferrableSavesNothing() {
        ServerDesk x = desk(1, 3, 5, 0);
        x.tick(4);
        leftIs(x, 3);
        x.job(10);
        x.tick(1);
        leftIs(x, 2);
        x.tick(1);
        leftIs(x, 2);
        x.tick(2);
        leftIs(x, 0);
        x.tick(2);
        leftIs(x, 0);
        x.tick(1);
        leftIs(x, 2);
        // Used at 10, 11 and, with the last of the job, at 12; nothing before 15.
        x.tick(2);
        leftIs(x, 0);
        x.tick(2);
        leftIs(x, 0);
        x.tick(1);
        leftIs(x, 3);
        x.tick(20);
        leftIs(x, 3);
    }

    private void deferrableWithTheGreatestPeriod() {
        ServerDesk x = desk(1, 1, 60, 58);
        x.job(4);
        Edges.tickTo(x, 122);
        edges.traceIs("5: 1 of 60", x, 57, 1, 1, -1, -1, 1);
        edges.traceIs("5: 1 of 60", x, 117, 1, 1, -1, 1, 1);
        check.due("5: 0, 59, 60 and 119", x.served(0, 122), 4);
        // The job ended at 119 with nothing of the budget, so that of 120 is left.
        leftIs(x, 1);
        check.due("9: ended", x.ended(0), 120);
    }

    private void deferrableWithTheLeastPeriod() {
        ServerDesk x = desk(1, 1, 1, 0);
        x.job(2);
        x.tick(1);
        leftIs(x, 0);
        x.tick(1);
        leftIs(x, 0);
        x.tick(1);
        leftIs(x, 1);
        x.tick(1);
        leftIs(x, 1);
    }

    private void sporadicComesBackAPeriodLater() {
        ServerDesk x = desk(2, 2, 10, 30);
        x.tick(3);
        x.job(30);
        x.tick(2);
        leftIs(x, 0);
        check.due("5: at 12 for the task", x.tick(8), 1);
        // Within the tick of moment 13 one comes back, not before it.
        leftIs(x, 0);
        check.due("5: at 13 for the job", x.tick(1), -1);
        leftIs(x, 0);
        check.due("5: at 14 for the job", x.tick(1), -1);
        leftIs(x, 0);
        check.due("5: at 15 for the task", x.tick(1), 1);
        check.due("5: at 22 for the task", x.tick(7), 1);
        check.due("5: at 23 for the job", x.tick(1), -1);
        check.due("5: at 24 for the job", x.tick(1), -1);
        check.due("5: at 25 for the task", x.tick(1), 1);
    }

    private void sporadicTickByTick() {
        ServerDesk x = desk(2, 2, 10, 30);
        x.tick(3);
        x.job(1);
        x.tick(1);
        leftIs(x, 1);
        x.tick(3);
        x.job(1);
        x.tick(1);
        leftIs(x, 0);
        x.tick(5);
        leftIs(x, 0);
        x.tick(1);
        leftIs(x, 1);
        x.tick(3);
        leftIs(x, 1);
        x.tick(1);
        leftIs(x, 2);
        x.tick(30);
        leftIs(x, 2);
        edges.traceIs("5: used at 3 and 7", x, 2, 1, -1, 1, 1, 1, -2, 1);
    }

    private void sporadicNeverAboveTheBudget() {
        ServerDesk x = desk(2, 3, 4, 0);
        for (int i = 0; i < 30; i++) {
            x.job(1);
            x.tick(1);
            check.due("5: not above the budget", x.state(7) >= 0 && x.state(7) <= 3, true);
            x.tick(1 + i % 3);
            check.due("5: not above the budget", x.state(7) >= 0 && x.state(7) <= 3, true);
        }
        x.tick(5);
        leftIs(x, 3);
    }

    private void sporadicWithTheGreatestNumbers() {
        ServerDesk x = desk(2, 60, 60, 0);
        x.job(30);
        x.job(30);
        x.job(30);
        x.tick(59);
        leftIs(x, 1);
        x.tick(1);
        leftIs(x, 0);
        x.tick(30);
        leftIs(x, 0);
        check.due("9: ended", x.ended(2), 90);
        x.tick(1);
        leftIs(x, 1);
        Edges.tickTo(x, 120);
        leftIs(x, 30);
        x.tick(1);
        leftIs(x, 31);
        Edges.tickTo(x, 149);
        leftIs(x, 59);
        x.tick(1);
        leftIs(x, 60);
        Edges.tickTo(x, 400);
        leftIs(x, 60);
    }

    private void sporadicWithTheLeastPeriod() {
        ServerDesk x = desk(2, 1, 1, 0);
        x.job(3);
        for (int i = 0; i < 3; i++) {
            x.tick(1);
            leftIs(x, 0);
        }
        x.tick(1);
        leftIs(x, 1);
        x.tick(3);
        leftIs(x, 1);
    }

    private void backgroundTicksAreNotUsed() {
        ServerDesk x = desk(2, 1, 5, 0);
        x.job(3);
        x.tick(3);
        leftIs(x, 0);
        check.due("5: served with nothing left", x.served(0, 3), 3);
        x.tick(2);
        leftIs(x, 0);
        for (int i = 0; i < 5; i++) {
            x.tick(1);
            leftIs(x, 1);
        }
        // Under rule 1 a tick with nothing left takes nothing of the next budget.
        ServerDesk y = desk(1, 1, 5, 0);
        y.job(4);
        y.tick(5);
        leftIs(y, 0);
        y.tick(1);
        leftIs(y, 1);
    }

    private void idleTicksAreUsedWhileSomethingIsLeft() {
        for (int kind = 1; kind <= 2; kind++) {
            // The task is done at 2; what the job takes at 3 and 4 is taken of the budget too.
            ServerDesk x = desk(kind, 2, 20, 2);
            x.tick(3);
            x.job(5);
            x.tick(1);
            leftIs(x, 1);
            x.tick(1);
            leftIs(x, 0);
            x.tick(3);
            leftIs(x, 0);
            check.due("9: ended", x.ended(0), 8);
            Edges.tickTo(x, 20);
            leftIs(x, 0);
            x.tick(1);
            leftIs(x, kind == 1 ? 2 : 0);
            Edges.tickTo(x, 23);
            leftIs(x, kind == 1 ? 2 : 0);
            x.tick(1);
            leftIs(x, kind == 1 ? 2 : 1);
            x.tick(1);
            leftIs(x, 2);
            x.tick(5);
            leftIs(x, 2);
        }
    }

    private void bothUpToTheLastMoment() {
        for (int kind = 1; kind <= 2; kind++) {
            ServerDesk x = desk(kind, 1, 37, 20);
            Edges.tickTo(x, 1960);
            x.job(2);
            x.tick(1);
            // Under rule 1 the budget is there anew at 1961 = 53 * 37, under rule 2 at 1997.
            leftIs(x, 0);
            x.tick(1);
            leftIs(x, 0);
            x.tick(35);
            leftIs(x, 0);
            x.tick(1);
            leftIs(x, kind == 1 ? 0 : 1);
            x.tick(1);
            leftIs(x, 1);
            x.tick(1);
            leftIs(x, 1);
        }
    }
}
