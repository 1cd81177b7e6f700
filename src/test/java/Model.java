import java.util.ArrayList;
import java.util.List;
import java.util.NoSuchElementException;

/**
 * The document done over again in the slow and obvious way, from other parts than the class: an
 * instance's need is looked up in all that was told, and the slack is found by trying every number
 * of ticks over two hyperperiods and more.
 */
final class Model {
    private static final int FAR = 126;

    private record Task(int period, int offset, int cost, int deadline) { }

    private record Job(int moment, int cost, boolean isHard) { }

    private record Early(int moment, int task, int ticks) { }

    private static final class Instance {
        final int task;
        final int due;
        int need;

        Instance(int task, int due, int need) {
            this.task = task;
            this.due = due;
            this.need = need;
        }
    }

    private List<Task> tasks = new ArrayList<>();
    private int[][] told = {{1, 60}, {1, 60}, {1, 60}, {1, 60}};
    private int kind = 0;
    private boolean started = false;
    private List<Job> jobs = new ArrayList<>();
    private List<Early> earlyOnes = new ArrayList<>();
    private Sim live = new Sim(0);
    private Sim latest = null;
    private int latestSame = 0;

    int task(int period, int offset, int cost, int deadline) {
        if (period < 1 || period > 60 || offset < 0 || offset >= period || cost < 1 || cost > 60
                || deadline < cost || deadline > period) {
            throw new IllegalArgumentException();
        }
        if (started || tasks.size() == 5) {
            throw new IllegalStateException();
        }
        tasks.add(new Task(period, offset, cost, deadline));
        if (hyperperiod() > 2000) {
            tasks.remove(tasks.size() - 1);
            throw new UnsupportedOperationException();
        }
        return tasks.size() - 1;
    }

    boolean rule(int newKind, int budget, int period) {
        if (newKind < 0 || newKind > 3) {
            throw new IllegalArgumentException();
        }
        boolean counts = newKind == 1 || newKind == 2;
        if (counts && (budget < 1 || period < 1 || budget > 60 || period > 60 || budget > period)) {
            throw new IllegalArgumentException();
        }
        if (started) {
            throw new IllegalStateException();
        }
        told[newKind] = new int[] {budget, period};
        boolean admitted = admitted(newKind);
        kind = admitted ? newKind : kind;
        return admitted;
    }

    void start() {
        if (started || !admitted(kind)) {
            throw new IllegalStateException();
        }
        started = true;
        live = new Sim(kind);
    }

    int tick(int n) {
        if (n < 1 || n > 100) {
            throw new IllegalArgumentException();
        }
        if (!started || live.now + n > 2000) {
            throw new IllegalStateException();
        }
        for (int i = 0; i < n; i++) {
            live.step();
        }
        return live.trace.get(live.now - 1);
    }

    int job(int cost) {
        if (cost < 1 || cost > 30) {
            throw new IllegalArgumentException();
        }
        if (!started || jobs.size() == 40) {
            throw new IllegalStateException();
        }
        jobs.add(new Job(live.now, cost, false));
        return jobs.size() - 1;
    }

    int hard(int cost, int deadline) {
        if (cost < 1 || cost > 30 || deadline < 1 || deadline > 200) {
            throw new IllegalArgumentException();
        }
        if (!started || jobs.size() == 40 || kind != 3) {
            throw new IllegalStateException();
        }
        int wanted = cost;
        for (int i = 0; i < jobs.size(); i++) {
            wanted += jobs.get(i).isHard ? live.needOf(i) : 0;
        }
        Sim trial = live.twin();
        int known = live.now;
        int got = 0;
        for (int i = 0; i < deadline; i++) {
            trial.release(known);
            Instance top = trial.top();
            if (top == null || trial.stands(1, known)) {
                got++;
            } else {
                top.need--;
            }
            trial.now++;
            trial.isReleased = false;
        }
        if (got < wanted) {
            return -1;
        }
        jobs.add(new Job(live.now, cost, true));
        return jobs.size() - 1;
    }

    void early(int task, int ticks) {
        if (task < 0 || task >= tasks.size() || ticks < 1 || ticks > tasks.get(task).cost) {
            throw new IllegalArgumentException();
        }
        if (!started || earlyOnes.size() == 200) {
            throw new IllegalStateException();
        }
        earlyOnes.add(new Early(live.now, task, ticks));
    }

    int ended(int job) {
        if (job < 0 || job >= jobs.size()) {
            throw new NoSuchElementException();
        }
        return live.endOf(job);
    }

    int slack() {
        if (!started) {
            throw new IllegalStateException();
        }
        return live.slack();
    }

    int trace(int moment) {
        if (moment < 0 || moment >= live.now) {
            throw new IndexOutOfBoundsException();
        }
        return live.trace.get(moment);
    }

    int served(int from, int to) {
        if (from < 0 || from > to || to > live.now) {
            throw new IllegalArgumentException();
        }
        return (int) live.trace.subList(from, to).stream().filter(runner -> runner < 0).count();
    }

    int replay(int other) {
        if (other < 0 || other > 3) {
            throw new IllegalArgumentException();
        }
        if (!started) {
            throw new IllegalStateException();
        }
        if (!admitted(other)) {
            throw new UnsupportedOperationException();
        }
        latest = new Sim(other);
        latestSame = 0;
        while (latest.now < live.now) {
            latest.step();
            int last = latest.now - 1;
            latestSame += latest.trace.get(last).intValue() == live.trace.get(last).intValue() ? 1 : 0;
        }
        int sum = 0;
        for (int i = 0; i < jobs.size(); i++) {
            sum += latest.endOf(i) < 0 ? 0 : latest.endOf(i) - jobs.get(i).moment;
        }
        latest.jobsThen = jobs.size();
        return sum;
    }

    int state(int what) {
        switch (what) {
            case 0:
                return latest == null ? 0 : latest.endedJobs();
            case 1:
                return latestSame;
            case 2:
                return live.late;
            case 3:
                return latest == null ? 0 : latest.late;
            case 4:
                return live.now;
            case 5:
                live.jobsThen = jobs.size();
                return jobs.size() - live.endedJobs();
            case 6:
                return hyperperiod();
            case 7:
                return started && (kind == 1 || kind == 2) ? live.left : 0;
            default:
                throw new IllegalArgumentException();
        }
    }

    void reset() {
        tasks = new ArrayList<>();
        told = new int[][] {{1, 60}, {1, 60}, {1, 60}, {1, 60}};
        kind = 0;
        started = false;
        jobs = new ArrayList<>();
        earlyOnes = new ArrayList<>();
        live = new Sim(0);
        latest = null;
        latestSame = 0;
    }

    private int hyperperiod() {
        int number = 1;
        boolean fits = false;
        while (!fits) {
            fits = true;
            for (Task task : tasks) {
                fits &= number % task.period == 0;
            }
            number += fits ? 0 : 1;
        }
        return number;
    }

    private boolean isAbove(int one, int other) {
        int a = tasks.get(one).deadline;
        int b = tasks.get(other).deadline;
        return a < b || a == b && one < other;
    }

    private boolean admitted(int ofKind) {
        for (int i = 0; i < tasks.size(); i++) {
            boolean found = false;
            for (int span = tasks.get(i).cost; span <= tasks.get(i).deadline && !found; span++) {
                found = demand(i, span, ofKind) == span;
            }
            if (!found) {
                return false;
            }
        }
        return true;
    }

    private int demand(int task, int span, int ofKind) {
        double budget = told[ofKind][0];
        double period = told[ofKind][1];
        double sum = tasks.get(task).cost;
        if (ofKind == 1) {
            sum += (1 + Math.ceil(Math.max(0, span - budget) / period)) * budget;
        } else if (ofKind == 2) {
            sum += Math.ceil(span / period) * budget;
        }
        for (int i = 0; i < tasks.size(); i++) {
            if (isAbove(i, task)) {
                sum += Math.ceil((double) span / tasks.get(i).period) * tasks.get(i).cost;
            }
        }
        return (int) sum;
    }

    /** What the instance that becomes ready at a moment needs, by all that was told up to another. */
    private int needAt(int task, int ready, int known) {
        int need = tasks.get(task).cost;
        for (Early one : earlyOnes) {
            boolean isBefore = ready - tasks.get(task).period >= one.moment;
            if (one.task == task && one.moment <= known && one.moment <= ready && !isBefore) {
                need = Math.min(need, one.ticks);
            }
        }
        return need;
    }

    private boolean comesAt(int task, int moment) {
        int since = moment - tasks.get(task).offset;
        return since >= 0 && since % tasks.get(task).period == 0;
    }

    private final class Sim {
        final int rule;
        final List<Instance> open = new ArrayList<>();
        final List<Integer> trace = new ArrayList<>();
        final List<Integer> spent = new ArrayList<>();
        int now = 0;
        boolean isReleased = false;
        int left;
        int late = 0;
        int jobsThen = 0;

        Sim(int rule) {
            this.rule = rule;
            left = rule == 1 || rule == 2 ? told[rule][0] : 0;
        }

        Sim twin() {
            Sim other = new Sim(rule);
            for (Instance one : open) {
                other.open.add(new Instance(one.task, one.due, one.need));
            }
            other.now = now;
            other.isReleased = isReleased;
            return other;
        }

        int needOf(int job) {
            int need = jobs.get(job).cost;
            for (int runner : trace) {
                need -= runner == -1 - job ? 1 : 0;
            }
            return need;
        }

        int endOf(int job) {
            return needOf(job) > 0 ? -1 : trace.lastIndexOf(-1 - job) + 1;
        }

        int endedJobs() {
            int sum = 0;
            for (int i = 0; i < jobsThen; i++) {
                sum += endOf(i) >= 0 ? 1 : 0;
            }
            return sum;
        }

        int firstJob() {
            for (int turn = 0; turn < 2; turn++) {
                for (int i = 0; i < jobs.size(); i++) {
                    Job job = jobs.get(i);
                    if (job.moment <= now && job.isHard == (turn == 0) && needOf(i) > 0) {
                        return i;
                    }
                }
            }
            return -1;
        }

        void release(int known) {
            for (int i = 0; i < tasks.size() && !isReleased; i++) {
                if (comesAt(i, now)) {
                    open.add(new Instance(i, now + tasks.get(i).deadline, needAt(i, now, known)));
                }
            }
            isReleased = true;
        }

        Instance top() {
            Instance best = null;
            for (Instance one : open) {
                if (one.need > 0 && (best == null || isAbove(one.task, best.task))) {
                    best = one;
                }
            }
            return best;
        }

        void step() {
            if (rule == 1 && now % told[1][1] == 0) {
                left = told[1][0];
            }
            for (int moment : spent) {
                left += rule == 2 && moment + told[2][1] == now ? 1 : 0;
            }
            release(now);
            int job = firstJob();
            Instance top = top();
            boolean isServed = job >= 0 && (top == null || left > 0 || rule == 3 && stands(1, now));
            if (isServed && left > 0) {
                left--;
                spent.add(now);
            }
            if (!isServed && top != null) {
                top.need--;
            }
            trace.add(isServed ? -1 - job : top != null ? top.task + 1 : 0);
            now++;
            isReleased = false;
            late += countLate(now);
            open.removeIf(one -> one.need == 0);
        }

        int countLate(int moment) {
            return (int) open.stream().filter(one -> one.need > 0 && one.due == moment).count();
        }

        /** Whether no instance would be late if so many ticks were taken at once. */
        boolean stands(int ticks, int known) {
            Sim ahead = twin();
            int from = now;
            int to = now + ticks + 2 * hyperperiod() + 200;
            while (ahead.now < to) {
                ahead.release(known);
                Instance top = ahead.top();
                if (ahead.now >= from + ticks && top != null) {
                    top.need--;
                }
                ahead.now++;
                ahead.isReleased = false;
                if (ahead.countLate(ahead.now) > 0) {
                    return false;
                }
                ahead.open.removeIf(one -> one.need == 0);
            }
            return true;
        }

        int slack() {
            int greatest = tasks.isEmpty() ? 1000 : 0;
            for (int ticks = 1; ticks < FAR && !tasks.isEmpty(); ticks++) {
                greatest = stands(ticks, now) ? ticks : greatest;
            }
            return greatest;
        }
    }
}
