import java.util.Arrays;
import java.util.NoSuchElementException;

/** A kernel with fixed priorities that serves jobs from outside by one of four rules. */
public final class ServerDesk {
    private static final int DEFERRABLE = 1;
    private static final int SPORADIC = 2;
    private static final int SLACK = 3;
    private static final int KINDS = 4;

    private static final int MOST_TASKS = 5;
    private static final int MOST_JOBS = 40;
    private static final int MOST_EARLY = 200;
    private static final int MOST_PERIOD = 60;
    private static final int MOST_COST = 60;
    private static final int MOST_JOB_COST = 30;
    private static final int MOST_HARD_DEADLINE = 200;
    private static final int MOST_TICKS = 100;
    private static final int MOST_HYPERPERIOD = 2000;
    private static final int LAST_MOMENT = 2000;
    private static final int SLACK_WITHOUT_TASKS = 1000;

    private static final int NONE = -1;
    private static final int NOBODY = 0;

    private final TaskSet tasks;
    private final RuleBook rules;
    private final JobLog jobs;
    private final EarlyLog earlyOnes;
    private final SlackMeter meter;
    private final Course live;
    private final Referee referee;
    private final int[] runners;
    private boolean started;
    private int now;

    public ServerDesk() {
        tasks = new TaskSet();
        rules = new RuleBook();
        jobs = new JobLog();
        earlyOnes = new EarlyLog();
        meter = new SlackMeter(tasks);
        live = new Course(tasks, jobs, meter);
        referee = new Referee(new Course(tasks, jobs, meter), jobs, earlyOnes);
        runners = new int[LAST_MOMENT];
        started = false;
        now = 0;
    }

    public int task(int period, int offset, int cost, int deadline)
            throws IllegalArgumentException, IllegalStateException, UnsupportedOperationException {
        if (!isWithin(period, 1, MOST_PERIOD) || !isWithin(offset, 0, period - 1)
                || !isWithin(cost, 1, MOST_COST) || !isWithin(deadline, cost, period)) {
            throw new IllegalArgumentException("a number of the task is out of its range");
        }
        if (started || tasks.count >= MOST_TASKS) {
            throw new IllegalStateException("it has started or there are five tasks");
        }
        if (tasks.hyperperiodWith(period) > MOST_HYPERPERIOD) {
            throw new UnsupportedOperationException("the hyperperiod would be above 2000");
        }
        return tasks.add(period, offset, cost, deadline);
    }

    public boolean rule(int kind, int budget, int period)
            throws IllegalArgumentException, IllegalStateException {
        if (!isKind(kind) || !RuleBook.mayHave(kind, budget, period)) {
            throw new IllegalArgumentException("a number of the rule is out of its range");
        }
        if (started) {
            throw new IllegalStateException("it has started");
        }
        rules.keep(kind, budget, period);
        boolean admitted = tasks.admit(rules, kind);
        if (admitted) {
            rules.current = kind;
        }
        return admitted;
    }

    public void start() throws IllegalStateException {
        if (started || !tasks.admit(rules, rules.current)) {
            throw new IllegalStateException("it has started or the rule is not admitted");
        }
        started = true;
        live.begin(rules, rules.current);
    }

    public int tick(int n) throws IllegalArgumentException, IllegalStateException {
        if (!isWithin(n, 1, MOST_TICKS)) {
            throw new IllegalArgumentException("not 1 to 100 ticks");
        }
        if (!started || now + n > LAST_MOMENT) {
            throw new IllegalStateException("it has not started or the moment would be above 2000");
        }
        int runner = NOBODY;
        for (int i = 0; i < n; i++) {
            runner = live.step(now);
            runners[now] = runner;
            now++;
        }
        return runner;
    }

    public int job(int cost) throws IllegalArgumentException, IllegalStateException {
        if (!isWithin(cost, 1, MOST_JOB_COST)) {
            throw new IllegalArgumentException("not a cost of 1 to 30");
        }
        if (!started || jobs.count >= MOST_JOBS) {
            throw new IllegalStateException("it has not started or there were 40 jobs");
        }
        return takeIn(cost, false);
    }

    public int hard(int cost, int deadline)
            throws IllegalArgumentException, IllegalStateException {
        if (!isWithin(cost, 1, MOST_JOB_COST) || !isWithin(deadline, 1, MOST_HARD_DEADLINE)) {
            throw new IllegalArgumentException("a number of the hard job is out of its range");
        }
        if (!started || jobs.count >= MOST_JOBS || rules.current != SLACK) {
            throw new IllegalStateException("not started, 40 jobs or another rule than 3");
        }
        int wanted = cost + live.queue.hardNeed();
        if (referee.hardTicks(live.load, now, deadline) < wanted) {
            return NONE;
        }
        return takeIn(cost, true);
    }

    public void early(int task, int ticks)
            throws IllegalArgumentException, IllegalStateException {
        if (!isWithin(task, 0, tasks.count - 1) || !isWithin(ticks, 1, tasks.cost[task])) {
            throw new IllegalArgumentException("no such task or number of ticks");
        }
        if (!started || earlyOnes.count >= MOST_EARLY) {
            throw new IllegalStateException("it has not started or 200 were told");
        }
        earlyOnes.add(now, task, ticks);
        live.load.shorten(task, ticks);
    }

    public int ended(int job) throws NoSuchElementException {
        if (!isWithin(job, 0, jobs.count - 1)) {
            throw new NoSuchElementException("no such job");
        }
        return live.queue.end[job];
    }

    public int slack() throws IllegalStateException {
        if (!started) {
            throw new IllegalStateException("it has not started");
        }
        return meter.measure(live.load, now, SLACK_WITHOUT_TASKS);
    }

    public int trace(int moment) throws IndexOutOfBoundsException {
        if (!isWithin(moment, 0, now - 1)) {
            throw new IndexOutOfBoundsException("there was no such tick");
        }
        return runners[moment];
    }

    public int served(int from, int to) throws IllegalArgumentException {
        if (from < 0 || from > to || to > now) {
            throw new IllegalArgumentException("not 0 <= from <= to <= now");
        }
        int sum = 0;
        for (int moment = from; moment < to; moment++) {
            if (runners[moment] < 0) {
                sum++;
            }
        }
        return sum;
    }

    public int replay(int kind)
            throws IllegalArgumentException, IllegalStateException, UnsupportedOperationException {
        if (!isKind(kind)) {
            throw new IllegalArgumentException("no such rule");
        }
        if (!started) {
            throw new IllegalStateException("it has not started");
        }
        if (!tasks.admit(rules, kind)) {
            throw new UnsupportedOperationException("the rule is not admitted so");
        }
        return referee.runAgain(rules, kind, runners, now);
    }

    public int state(int what) throws IllegalArgumentException {
        switch (what) {
            case 0:
                return referee.endedJobs;
            case 1:
                return referee.sameTicks;
            case 2:
                return live.late;
            case 3:
                return referee.late;
            case 4:
                return now;
            case 5:
                return live.queue.waiting;
            case 6:
                return tasks.hyperperiod;
            case 7:
                return live.budget.left;
            default:
                throw new IllegalArgumentException("no such what");
        }
    }

    public void reset() {
        tasks.clear();
        rules.clear();
        jobs.count = 0;
        earlyOnes.count = 0;
        live.begin(rules, rules.current);
        referee.clear();
        started = false;
        now = 0;
    }

    private int takeIn(int cost, boolean isHard) {
        int number = jobs.add(now, cost, isHard);
        live.queue.takeUpTo(now);
        return number;
    }

    private static boolean isKind(int kind) {
        return isWithin(kind, 0, KINDS - 1);
    }

    private static boolean isWithin(int number, int least, int most) {
        return number >= least && number <= most;
    }

    /** The tasks by their numbers, and which of them stands at each rank of priority. */
    private static final class TaskSet {
        private final int[] period = new int[MOST_TASKS];
        private final int[] offset = new int[MOST_TASKS];
        private final int[] cost = new int[MOST_TASKS];
        private final int[] deadline = new int[MOST_TASKS];
        private final int[] atRank = new int[MOST_TASKS];
        private int count = 0;
        private int hyperperiod = 1;

        void clear() {
            count = 0;
            hyperperiod = 1;
        }

        int hyperperiodWith(int newPeriod) {
            return hyperperiod / commonDivisor(hyperperiod, newPeriod) * newPeriod;
        }

        int add(int newPeriod, int newOffset, int newCost, int newDeadline) {
            int number = count;
            if (number >= MOST_TASKS) {
                return NONE;
            }
            hyperperiod = hyperperiodWith(newPeriod);
            period[number] = newPeriod;
            offset[number] = newOffset;
            cost[number] = newCost;
            deadline[number] = newDeadline;
            // The new task has the greatest number, so it stands behind all equal deadlines.
            int rank = number;
            while (rank > 0 && deadline[atRank[rank - 1]] > newDeadline) {
                atRank[rank] = atRank[rank - 1];
                rank--;
            }
            atRank[rank] = number;
            count++;
            return number;
        }

        boolean admit(RuleBook rules, int kind) {
            for (int rank = 0; rank < count; rank++) {
                if (!isInTime(rank, rules, kind)) {
                    return false;
                }
            }
            return true;
        }

        private boolean isInTime(int rank, RuleBook rules, int kind) {
            int most = deadline[atRank[rank]];
            int response = cost[atRank[rank]];
            // The response grows with each turn but the last, and no deadline is above a period.
            for (int turn = 0; turn <= MOST_PERIOD && response <= most; turn++) {
                int demand = demandWithin(response, rank) + rules.demandWithin(response, kind);
                if (demand == response) {
                    return true;
                }
                response = demand;
            }
            return false;
        }

        private int demandWithin(int span, int rank) {
            int demand = cost[atRank[rank]];
            for (int above = 0; above < rank; above++) {
                int task = atRank[above];
                demand += roundedUp(span, period[task]) * cost[task];
            }
            return demand;
        }

        private static int commonDivisor(int a, int b) {
            int greater = a;
            int lesser = b;
            // Two turns at least halve the greater number, so a word of 32 bits needs under 64.
            for (int turn = 0; turn < 64 && lesser > 0; turn++) {
                int rest = greater % lesser;
                greater = lesser;
                lesser = rest;
            }
            return greater > 0 ? greater : 1;
        }
    }

    /** What was told last for each kind of rule, and the kind that is the rule. */
    private static final class RuleBook {
        private final int[] budget = new int[KINDS];
        private final int[] period = new int[KINDS];
        private int current = 0;

        RuleBook() {
            clear();
        }

        void clear() {
            Arrays.fill(budget, 1);
            Arrays.fill(period, MOST_PERIOD);
            current = 0;
        }

        static boolean hasBudget(int kind) {
            return kind == DEFERRABLE || kind == SPORADIC;
        }

        static boolean mayHave(int kind, int budget, int period) {
            return !hasBudget(kind) || isWithin(period, 1, MOST_PERIOD) && isWithin(budget, 1, period);
        }

        void keep(int kind, int newBudget, int newPeriod) {
            if (hasBudget(kind)) {
                budget[kind] = newBudget;
                period[kind] = newPeriod;
            }
        }

        int demandWithin(int span, int kind) {
            switch (kind) {
                case DEFERRABLE:
                    return (1 + roundedUp(Math.max(0, span - budget[kind]), period[kind])) * budget[kind];
                case SPORADIC:
                    return roundedUp(span, period[kind]) * budget[kind];
                default:
                    return 0;
            }
        }
    }

    private static int roundedUp(int number, int divisor) {
        return divisor > 0 ? (number + divisor - 1) / divisor : 0;
    }

    /** All jobs that came, in the order of arrival: the referee needs them once more. */
    private static final class JobLog {
        private final int[] arrival = new int[MOST_JOBS];
        private final int[] cost = new int[MOST_JOBS];
        private final boolean[] isHard = new boolean[MOST_JOBS];
        private int count = 0;

        int add(int moment, int newCost, boolean newIsHard) {
            int number = count;
            if (number >= MOST_JOBS) {
                return NONE;
            }
            arrival[number] = moment;
            cost[number] = newCost;
            isHard[number] = newIsHard;
            count++;
            return number;
        }
    }

    /** All that early() told, in its order: the referee needs it once more. */
    private static final class EarlyLog {
        private final int[] moment = new int[MOST_EARLY];
        private final int[] task = new int[MOST_EARLY];
        private final int[] ticks = new int[MOST_EARLY];
        private int count = 0;

        void add(int newMoment, int newTask, int newTicks) {
            if (count < MOST_EARLY) {
                moment[count] = newMoment;
                task[count] = newTask;
                ticks[count] = newTicks;
                count++;
            }
        }
    }

    /** The instances of all tasks in one course of ticks. */
    private static final class Load {
        private final TaskSet tasks;
        private final int[] nextReady = new int[MOST_TASKS];
        private final int[] nextNeed = new int[MOST_TASKS];
        private final int[] need = new int[MOST_TASKS];
        private final int[] due = new int[MOST_TASKS];

        Load(TaskSet tasks) {
            this.tasks = tasks;
        }

        void begin() {
            for (int task = 0; task < tasks.count; task++) {
                nextReady[task] = tasks.offset[task];
                nextNeed[task] = tasks.cost[task];
                need[task] = 0;
                due[task] = 0;
            }
        }

        void copy(Load other) {
            for (int task = 0; task < tasks.count; task++) {
                nextReady[task] = other.nextReady[task];
                nextNeed[task] = other.nextNeed[task];
                need[task] = other.need[task];
                due[task] = other.due[task];
            }
        }

        void shorten(int task, int ticks) {
            if (isWithin(task, 0, tasks.count - 1)) {
                nextNeed[task] = Math.min(nextNeed[task], ticks);
            }
        }

        void makeReady(int moment) {
            for (int task = 0; task < tasks.count; task++) {
                if (nextReady[task] == moment) {
                    need[task] += nextNeed[task];
                    due[task] = moment + tasks.deadline[task];
                    nextReady[task] = moment + tasks.period[task];
                    nextNeed[task] = tasks.cost[task];
                }
            }
        }

        /** The rank of the instance to run; behind all ranks if none is ready. */
        int readyRank() {
            for (int rank = 0; rank < tasks.count; rank++) {
                if (need[tasks.atRank[rank]] > 0) {
                    return rank;
                }
            }
            return tasks.count;
        }

        void run(int rank) {
            if (isWithin(rank, 0, tasks.count - 1)) {
                need[tasks.atRank[rank]]--;
            }
        }

        /** When the instance of a task that is to be done first has to be done. */
        int firstDue(int task) {
            return need[task] > 0 ? due[task] : nextReady[task] + tasks.deadline[task];
        }

        int lateAt(int moment) {
            int late = 0;
            for (int task = 0; task < tasks.count; task++) {
                if (need[task] > 0 && due[task] == moment) {
                    late++;
                }
            }
            return late;
        }
    }

    /**
     * Looks ahead for the slack. Ticks taken now can make only the first instance of each task
     * that is not done yet late: once it is done, nothing of its rank or above waits any longer,
     * and what comes later is in time, since the rule is admitted. So the slack is the least
     * number of ticks that a rank and those above it leave free up to that instance's end.
     */
    private static final class SlackMeter {
        private final TaskSet tasks;
        private final Load ahead;
        private final int[] free = new int[MOST_TASKS];
        private final int[] until = new int[MOST_TASKS];

        SlackMeter(TaskSet tasks) {
            this.tasks = tasks;
            ahead = new Load(tasks);
        }

        /** The slack, or most if it is above that: a small limit is found out sooner. */
        int measure(Load load, int moment, int most) {
            int last = prepare(load, moment);
            int slack = most;
            for (int at = moment; at < last && !isSettled(slack, at); at++) {
                ahead.makeReady(at);
                int busy = ahead.readyRank();
                ahead.run(busy);
                for (int rank = 0; rank < busy; rank++) {
                    free[rank]++;
                }
                for (int rank = 0; rank < tasks.count; rank++) {
                    if (until[rank] == at + 1) {
                        slack = Math.min(slack, free[rank]);
                    }
                }
            }
            return slack;
        }

        private int prepare(Load load, int moment) {
            ahead.copy(load);
            int last = moment;
            for (int rank = 0; rank < tasks.count; rank++) {
                free[rank] = 0;
                until[rank] = load.firstDue(tasks.atRank[rank]);
                last = Math.max(last, until[rank]);
            }
            return last;
        }

        private boolean isSettled(int slack, int at) {
            for (int rank = 0; rank < tasks.count; rank++) {
                if (until[rank] > at && free[rank] < slack) {
                    return false;
                }
            }
            return true;
        }
    }

    /** What is left of the budget in one course of ticks. */
    private static final class Budget {
        // A tick used at a moment comes back a period later, so at the same place of this row.
        private final int[] used = new int[MOST_PERIOD];
        private int kind = 0;
        private int full = 0;
        private int period = MOST_PERIOD;
        private int left = 0;

        void begin(RuleBook rules, int newKind) {
            Arrays.fill(used, 0);
            kind = newKind;
            full = RuleBook.hasBudget(newKind) ? rules.budget[newKind] : 0;
            period = rules.period[newKind];
            left = full;
        }

        void comeBack(int moment) {
            int place = placeOf(moment);
            if (kind == DEFERRABLE && place == 0) {
                left = full;
            } else if (kind == SPORADIC) {
                left += used[place];
                used[place] = 0;
            }
        }

        void take(int moment) {
            if (left > 0) {
                left--;
                used[placeOf(moment)]++;
            }
        }

        private int placeOf(int moment) {
            return isWithin(period, 1, MOST_PERIOD) ? Math.floorMod(moment, period) : 0;
        }
    }

    /** The jobs of the log that came up to now in one course of ticks. */
    private static final class Queue {
        private final JobLog log;
        private final int[] need = new int[MOST_JOBS];
        private final int[] end = new int[MOST_JOBS];
        private int arrived = 0;
        private int waiting = 0;

        Queue(JobLog log) {
            this.log = log;
        }

        void begin() {
            arrived = 0;
            waiting = 0;
        }

        void takeUpTo(int moment) {
            while (arrived < log.count && log.arrival[arrived] <= moment) {
                need[arrived] = log.cost[arrived];
                end[arrived] = NONE;
                arrived++;
                waiting++;
            }
        }

        int first() {
            int firstSoft = NONE;
            for (int number = 0; waiting > 0 && number < arrived; number++) {
                if (need[number] > 0 && log.isHard[number]) {
                    return number;
                }
                if (need[number] > 0 && firstSoft == NONE) {
                    firstSoft = number;
                }
            }
            return firstSoft;
        }

        int hardNeed() {
            int sum = 0;
            for (int number = 0; number < arrived; number++) {
                if (log.isHard[number]) {
                    sum += need[number];
                }
            }
            return sum;
        }

        void serve(int number, int moment) {
            if (isWithin(number, 0, arrived - 1)) {
                need[number]--;
                if (need[number] == 0) {
                    end[number] = moment + 1;
                    waiting--;
                }
            }
        }
    }

    /** One course of ticks under one rule: the run itself, or the referee's. */
    private static final class Course {
        private final TaskSet tasks;
        private final SlackMeter meter;
        private final Load load;
        private final Queue queue;
        private final Budget budget;
        private int kind = 0;
        private int late = 0;

        Course(TaskSet tasks, JobLog jobs, SlackMeter meter) {
            this.tasks = tasks;
            this.meter = meter;
            load = new Load(tasks);
            queue = new Queue(jobs);
            budget = new Budget();
        }

        void begin(RuleBook rules, int newKind) {
            load.begin();
            queue.begin();
            budget.begin(rules, newKind);
            kind = newKind;
            late = 0;
        }

        /** Gives the tick of a moment to its runner, told as tick() tells it. */
        int step(int moment) {
            budget.comeBack(moment);
            load.makeReady(moment);
            int runner = runOne(moment);
            late += load.lateAt(moment + 1);
            return runner;
        }

        private int runOne(int moment) {
            int rank = load.readyRank();
            boolean isIdle = rank >= tasks.count;
            int number = queue.first();
            if (number != NONE && (isIdle || budget.left > 0
                    || kind == SLACK && meter.measure(load, moment, 1) > 0)) {
                budget.take(moment);
                queue.serve(number, moment);
                return -1 - number;
            }
            if (isIdle) {
                return NOBODY;
            }
            load.run(rank);
            return tasks.atRank[rank] + 1;
        }
    }

    /** Runs ticks that do not count: all that were under another rule, or some that may come. */
    private static final class Referee {
        private final Course course;
        private final JobLog jobs;
        private final EarlyLog earlyOnes;
        private int endedJobs = 0;
        private int sameTicks = 0;
        private int late = 0;

        Referee(Course course, JobLog jobs, EarlyLog earlyOnes) {
            this.course = course;
            this.jobs = jobs;
            this.earlyOnes = earlyOnes;
        }

        void clear() {
            endedJobs = 0;
            sameTicks = 0;
            late = 0;
        }

        int runAgain(RuleBook rules, int kind, int[] runners, int now) {
            course.begin(rules, kind);
            clear();
            int told = 0;
            for (int moment = 0; moment < now && moment < runners.length; moment++) {
                course.queue.takeUpTo(moment);
                told = tellUpTo(moment, told);
                if (course.step(moment) == runners[moment]) {
                    sameTicks++;
                }
            }
            late = course.late;
            return sumOfTimes();
        }

        private int tellUpTo(int moment, int told) {
            int next = told;
            while (next < earlyOnes.count && earlyOnes.moment[next] <= moment) {
                course.load.shorten(earlyOnes.task[next], earlyOnes.ticks[next]);
                next++;
            }
            return next;
        }

        private int sumOfTimes() {
            int sum = 0;
            for (int number = 0; number < course.queue.arrived; number++) {
                if (course.queue.end[number] != NONE) {
                    endedJobs++;
                    sum += course.queue.end[number] - jobs.arrival[number];
                }
            }
            return sum;
        }

        /** How many of so many ticks hard jobs would have, if they took all that they may. */
        int hardTicks(Load from, int now, int ticks) {
            Load load = course.load;
            load.copy(from);
            int taken = 0;
            for (int moment = now; moment < now + ticks; moment++) {
                load.makeReady(moment);
                int rank = load.readyRank();
                if (rank >= course.tasks.count || course.meter.measure(load, moment, 1) > 0) {
                    taken++;
                } else {
                    load.run(rank);
                }
            }
            return taken;
        }
    }
}
