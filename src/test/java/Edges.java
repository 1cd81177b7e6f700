import java.util.ArrayList;
import java.util.List;

/**
 * For the tests of edges: a call that is refused throws what is due, and the desk on which it was
 * made answers all later calls as its twin does, on which it was not made.
 */
final class Edges {
    static final Class<IllegalArgumentException> ARGUMENT = IllegalArgumentException.class;
    static final Class<IllegalStateException> STATE = IllegalStateException.class;
    static final Class<UnsupportedOperationException> UNSUPPORTED = UnsupportedOperationException.class;

    /** More than once, since a count that is one too high may not show yet. */
    private static final int TIMES = 3;

    interface Step {
        void on(ServerDesk x);
    }

    interface Call {
        long on(ServerDesk x);
    }

    private interface Tail {
        void on(ServerDesk x, List<String> told);
    }

    private final Check check;
    private final List<Tail> tails = List.of(Edges::goOn, Edges::planAnew, Edges::fillUp);

    Edges(Check check) {
        this.check = check;
    }

    /** Tasks and the numbers of rules, with all four rules admitted, and one of them the rule. */
    static void plan(ServerDesk x, int kind) {
        x.task(20, 0, 4, 18);
        x.task(30, 2, 3, 30);
        x.task(12, 5, 2, 9);
        int[][] told = {{0, 0}, {2, 11}, {2, 9}, {0, 0}};
        for (int other = 0; other < 4; other++) {
            x.rule(other, told[other][0], told[other][1]);
        }
        x.rule(kind, told[kind][0], told[kind][1]);
    }

    /** A run with something of everything: jobs that ended and that wait, early ones, a replay. */
    static void run(ServerDesk x, int kind) {
        plan(x, kind);
        x.start();
        x.job(2);
        x.early(0, 2);
        x.tick(13);
        x.job(5);
        x.job(3);
        if (kind == 3) {
            x.hard(3, 40);
        }
        x.early(2, 1);
        x.tick(2);
        x.early(0, 3);
        x.replay(kind == 0 ? 3 : 0);
    }

    static void tickTo(ServerDesk x, int moment) {
        for (int left = moment - x.state(4); left > 0; left = moment - x.state(4)) {
            x.tick(Math.min(100, left));
        }
    }

    void refused(String call, Class<? extends RuntimeException> want, Step before, Step refusal) {
        ServerDesk x = new ServerDesk();
        before.on(x);
        check.fails(call, want, () -> refusal.on(x));
        changesNothing(call, before, refusal);
    }

    /** For a call that answers, but of which later calls must show nothing. */
    void leavesAll(String call, long want, Step before, Call idle) {
        ServerDesk x = new ServerDesk();
        before.on(x);
        check.due(call, idle.on(x), want);
        changesNothing(call, before, idle::on);
    }

    /** One of the steps must leave a desk as the other does, in all that later calls show. */
    void sameAfter(String what, Step one, Step other) {
        for (Tail tail : tails) {
            ServerDesk x = new ServerDesk();
            ServerDesk twin = new ServerDesk();
            one.on(x);
            other.on(twin);
            compare(what, x, twin, tail);
        }
    }

    void traceIs(String when, ServerDesk x, int from, int... want) {
        for (int i = 0; i < want.length; i++) {
            check.due(when + ": trace(" + (from + i) + ")", x.trace(from + i), want[i]);
        }
    }

    private void changesNothing(String call, Step before, Step refusal) {
        Step withIt = x -> {
            before.on(x);
            for (int i = 0; i < TIMES; i++) {
                quietly(x, refusal);
            }
        };
        sameAfter("after " + call, withIt, before);
    }

    private static void quietly(ServerDesk x, Step refusal) {
        Check.told(() -> {
            refusal.on(x);
            return 0;
        });
    }

    private void compare(String what, ServerDesk x, ServerDesk twin, Tail tail) {
        List<String> got = new ArrayList<>();
        List<String> want = new ArrayList<>();
        tail.on(x, got);
        tail.on(twin, want);
        check.due(what + ": later calls", got.size(), want.size());
        for (int i = 0; i < Math.min(got.size(), want.size()); i++) {
            check.same(what + ": later call " + i, got.get(i), want.get(i));
        }
    }

    private static void goOn(ServerDesk x, List<String> told) {
        look(x, told);
        start(x, told);
        replayAll(x, told);
        for (int i = 0; i < 4; i++) {
            tick(x, told, 1);
            tell(told, "slack", () -> x.slack());
        }
        tell(told, "job", () -> x.job(3));
        tell(told, "hard", () -> x.hard(2, 30));
        tick(x, told, 9);
        early(x, told, 0);
        tick(x, told, 40);
        replayAll(x, told);
        look(x, told);
    }

    private static void planAnew(ServerDesk x, List<String> told) {
        tell(told, "task", () -> x.task(15, 1, 1, 14));
        tell(told, "state(6)", () -> x.state(6));
        tell(told, "rule", () -> x.rule(1, 1, 13) ? 1 : 0);
        tell(told, "rule", () -> x.rule(2, 1, 14) ? 1 : 0);
        tell(told, "rule", () -> x.rule(2, 60, 60) ? 1 : 0);
        tell(told, "rule", () -> x.rule(3, 0, 0) ? 1 : 0);
        start(x, told);
        tell(told, "job", () -> x.job(9));
        tick(x, told, 25);
        replayAll(x, told);
        look(x, told);
    }

    private static void fillUp(ServerDesk x, List<String> told) {
        fill(told, "task", 6, () -> x.task(60, 7, 1, 60));
        start(x, told);
        fill(told, "job", 41, () -> x.job(2));
        fill(told, "early", 201, () -> {
            x.early(0, 1);
            return 0;
        });
        fill(told, "tick", 201, () -> x.tick(100));
        look(x, told);
    }

    private static void fill(List<String> told, String call, int most, java.util.function.LongSupplier body) {
        boolean isTaken = true;
        for (int i = 0; i < most && isTaken; i++) {
            String answer = Check.told(body);
            told.add(call + " " + answer);
            isTaken = !answer.startsWith("throws");
        }
    }

    private static void look(ServerDesk x, List<String> told) {
        for (int i = 0; i < 8; i++) {
            int what = i;
            tell(told, "state(" + what + ")", () -> x.state(what));
        }
        for (int i = 0; i < 41; i++) {
            int job = i;
            tell(told, "ended(" + job + ")", () -> x.ended(job));
        }
        int now = x.state(4);
        for (int i = 0; i < 16; i++) {
            int moment = i;
            tell(told, "trace(" + moment + ")", () -> x.trace(moment));
            tell(told, "trace(now - " + moment + ")", () -> x.trace(now - moment));
        }
        tell(told, "served(0, now)", () -> x.served(0, now));
        tell(told, "served(0, now + 1)", () -> x.served(0, now + 1));
        tell(told, "slack()", () -> x.slack());
    }

    private static void replayAll(ServerDesk x, List<String> told) {
        for (int i = 0; i < 4; i++) {
            int kind = i;
            tell(told, "replay(" + kind + ")", () -> x.replay(kind));
            tell(told, "state(0)", () -> x.state(0));
            tell(told, "state(1)", () -> x.state(1));
        }
    }

    private static void start(ServerDesk x, List<String> told) {
        tell(told, "start()", () -> {
            x.start();
            return 0;
        });
    }

    private static void early(ServerDesk x, List<String> told, int task) {
        tell(told, "early(" + task + ", 1)", () -> {
            x.early(task, 1);
            return 0;
        });
    }

    private static void tick(ServerDesk x, List<String> told, int n) {
        tell(told, "tick(" + n + ")", () -> x.tick(n));
    }

    private static void tell(List<String> told, String call, java.util.function.LongSupplier body) {
        told.add(call + " " + Check.told(body));
    }
}
