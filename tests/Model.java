import java.util.ArrayList;
import java.util.List;
import java.util.NoSuchElementException;

/**
 * The document told a second time, for comparing: it keeps what happened and works every answer out
 * anew, by recursion and without anything kept ready, so that it shares no way with the class.
 */
public final class Model {
    private static final class Member {
        boolean isGroup;
        int number;
        Member parent;
        int weight;
        long time;
        boolean timed;
        int period;
        int budget;
        int added;
        int lastRelease;
        int left;
        int done;
        int missed;
        boolean ended;
        List<Integer> chosenFor = new ArrayList<>();
    }

    private final List<int[]> cores = new ArrayList<>();
    private final List<Member> groups = new ArrayList<>();
    private final List<Member> tasks = new ArrayList<>();
    /** Of each lock: the holder and after it those who wait. */
    private final List<List<Member>> locks = new ArrayList<>();
    private int limit = 50;
    private int cap = 12;
    private int tick = 0;
    private int used = 0;
    private int all = 0;

    public Model() {
        Member top = new Member();
        top.isGroup = true;
        groups.add(top);
        for (int i = 0; i < 4; i++) {
            locks.add(new ArrayList<>());
        }
    }

    private static <E> E at(List<E> list, int i, RuntimeException otherwise) {
        if (i < 0 || i >= list.size()) {
            throw otherwise;
        }
        return list.get(i);
    }

    private static void range(int low, int number, int high) {
        if (number < low || number > high) {
            throw new IllegalArgumentException();
        }
    }

    private static void room(List<?> list, int most) {
        if (list.size() == most) {
            throw new IllegalStateException();
        }
    }

    private Member task(int i) {
        return at(tasks, i, new NoSuchElementException());
    }

    private Member group(int i) {
        return at(groups, i, new IndexOutOfBoundsException());
    }

    private List<Member> lock(int i) {
        return at(locks, i, new IndexOutOfBoundsException());
    }

    public int addCore(int speed) {
        range(1, speed, 4);
        room(cores, 3);
        cores.add(new int[] {speed, 0});
        return cores.size() - 1;
    }

    public int setLimit(int to) {
        range(1, to, 99);
        int old = limit;
        limit = to;
        return old;
    }

    public int setCap(int to) {
        range(0, to, 12);
        int old = cap;
        cap = to;
        return old;
    }

    public int heat(int core) {
        return at(cores, core, new IndexOutOfBoundsException())[1];
    }

    public int pace(int core) {
        int[] c = at(cores, core, new IndexOutOfBoundsException());
        return c[1] < limit ? c[0] : c[0] / 2 + c[0] % 2;
    }

    private List<Member> members(Member group) {
        List<Member> found = new ArrayList<>();
        for (Member g : groups) {
            if (g.parent == group) {
                found.add(g);
            }
        }
        for (Member t : tasks) {
            if (t.parent == group) {
                found.add(t);
            }
        }
        return found;
    }

    private Member join(Member group, int weight) {
        Member m = new Member();
        m.parent = group;
        m.weight = weight;
        m.time = members(group).stream().mapToLong(o -> o.time).min().orElse(0);
        return m;
    }

    public int addGroup(int parent, int weight) {
        Member g = group(parent);
        range(1, weight, 9);
        room(groups, 6);
        Member m = join(g, weight);
        m.isGroup = true;
        m.number = groups.size();
        groups.add(m);
        return m.number;
    }

    public int addPlain(int group, int weight, int units) {
        Member g = group(group);
        range(1, weight, 9);
        range(1, units, 500);
        room(tasks, 12);
        Member m = join(g, weight);
        m.left = units;
        m.number = tasks.size();
        tasks.add(m);
        return m.number;
    }

    private static int share(int budget, int period) {
        int share = 0;
        while (share * period < 1000 * budget) {
            share++;
        }
        return share;
    }

    public int addTimed(int group, int weight, int period, int budget) {
        Member g = group(group);
        range(1, weight, 9);
        range(2, period, 60);
        range(1, budget, 40);
        if (share(budget, period) + admitted() > 1000 * promise()) {
            throw new UnsupportedOperationException();
        }
        room(tasks, 12);
        Member m = join(g, weight);
        m.timed = true;
        m.period = period;
        m.budget = budget;
        m.left = budget;
        m.added = tick;
        m.lastRelease = tick;
        m.number = tasks.size();
        tasks.add(m);
        return m.number;
    }

    public int end(int task) {
        Member t = task(task);
        if (t.ended) {
            throw new IllegalStateException();
        }
        for (List<Member> l : locks) {
            l.remove(t);
        }
        int left = t.left;
        t.left = 0;
        t.ended = true;
        return left;
    }

    public int left(int task) {
        return task(task).left;
    }

    private List<Member> waitsIn(Member t) {
        for (List<Member> l : locks) {
            if (l.indexOf(t) > 0) {
                return l;
            }
        }
        return null;
    }

    public char stateOf(int task) {
        Member t = task(task);
        return t.ended ? 'e' : waitsIn(t) != null ? 'w' : t.left > 0 ? 'r' : 'i';
    }

    public long timeOf(int task) {
        return task(task).time;
    }

    public long timeOfGroup(int group) {
        if (group == 0) {
            throw new IndexOutOfBoundsException();
        }
        return group(group).time;
    }

    public int doneBy(int task) {
        return task(task).done;
    }

    private static boolean isUnder(Member m, Member group) {
        return m == group || (m.parent != null && isUnder(m.parent, group));
    }

    public int doneIn(int group) {
        Member g = group(group);
        return tasks.stream().filter(t -> isUnder(t, g)).mapToInt(t -> t.done).sum();
    }

    public int admitted() {
        return tasks.stream().filter(t -> t.timed && !t.ended)
                .mapToInt(t -> share(t.budget, t.period)).sum();
    }

    public int promise() {
        int sum = cores.stream().mapToInt(c -> c[0]).sum();
        return sum > cap ? cap : sum;
    }

    public int deadlineOf(int task) {
        Member t = task(task);
        if (!t.timed) {
            throw new UnsupportedOperationException();
        }
        return t.lastRelease + t.period;
    }

    private int urgency(Member t) {
        int least = t.timed && t.left > 0 ? t.lastRelease + t.period : 5000;
        for (List<Member> l : locks) {
            if (l.indexOf(t) == 0) {
                for (Member waiter : l.subList(1, l.size())) {
                    least = Math.min(least, urgency(waiter));
                }
            }
        }
        return least;
    }

    public int urgencyOf(int task) {
        int u = urgency(task(task));
        if (u == 5000) {
            throw new NoSuchElementException();
        }
        return u;
    }

    public int missesOf(int task) {
        return task(task).missed;
    }

    public int misses() {
        return tasks.stream().mapToInt(t -> t.missed).sum();
    }

    private boolean wouldCircle(Member t, Member holder) {
        List<Member> l = waitsIn(holder);
        return l != null && (l.get(0) == t || wouldCircle(t, l.get(0)));
    }

    public boolean take(int task, int lock) {
        Member t = task(task);
        List<Member> l = lock(lock);
        if (t.ended || waitsIn(t) != null || l.indexOf(t) == 0) {
            throw new IllegalStateException();
        }
        if (!l.isEmpty() && wouldCircle(t, l.get(0))) {
            throw new UnsupportedOperationException();
        }
        l.add(t);
        return l.size() == 1;
    }

    public int release(int lock) {
        List<Member> l = lock(lock);
        if (l.isEmpty()) {
            throw new IllegalStateException();
        }
        l.remove(0);
        return holderOf(lock);
    }

    public int holderOf(int lock) {
        List<Member> l = lock(lock);
        return l.isEmpty() ? -1 : l.get(0).number;
    }

    public int waiterAt(int lock, int index) {
        List<Member> l = lock(lock);
        if (index < 0 || index >= l.size() - 1) {
            throw new NoSuchElementException();
        }
        return l.get(index + 1).number;
    }

    private Member down(Member group, List<Member> free) {
        Member best = null;
        for (Member m : members(group)) {
            if (free.stream().anyMatch(t -> isUnder(t, m)) && (best == null || m.time < best.time)) {
                best = m;
            }
        }
        return best.isGroup ? down(best, free) : best;
    }

    /** The numbers of the tasks chosen for all cores, or -1. */
    private int[] choices() {
        int[] chosen = {-1, -1, -1};
        int sum = 0;
        for (int c = 0; c < cores.size(); c++) {
            List<Member> free = new ArrayList<>();
            for (Member t : tasks) {
                if (stateOf(t.number) == 'r' && t.number != chosen[0] && t.number != chosen[1]) {
                    free.add(t);
                }
            }
            if (free.isEmpty() || sum + pace(c) > cap) {
                continue;
            }
            sum += pace(c);
            Member urgent = free.get(0);
            for (Member t : free) {
                if (urgency(t) < urgency(urgent)) {
                    urgent = t;
                }
            }
            chosen[c] = urgency(urgent) < 5000 ? urgent.number : down(groups.get(0), free).number;
        }
        return chosen;
    }

    public int choice(int core) {
        heat(core);
        return choices()[core];
    }

    public int choiceByComparing(int core) {
        return choice(core);
    }

    private int work(Member t, int core) {
        int units = pace(core);
        int times = t.chosenFor.size();
        if (times > 0 && t.chosenFor.get(times - 1) != core) {
            units -= 1;
        }
        t.chosenFor.add(core);
        units = units > t.left ? t.left : units;
        t.left -= units;
        t.done += units;
        for (Member m = t; m.parent != null; m = m.parent) {
            m.time += units * 2520L / m.weight;
        }
        return units;
    }

    public int pass(int ticks) {
        range(1, ticks, 50);
        if (tick + ticks > 900) {
            throw new IllegalStateException();
        }
        int done = 0;
        for (int end = tick + ticks; tick < end; tick++) {
            for (Member t : tasks) {
                if (t.timed && !t.ended && t.added != tick && (tick - t.added) % t.period == 0) {
                    t.missed += t.left > 0 ? 1 : 0;
                    t.left = t.budget;
                    t.lastRelease = tick;
                }
            }
            int[] chosen = choices();
            for (int c = 0; c < cores.size(); c++) {
                done += chosen[c] < 0 ? 0 : work(tasks.get(chosen[c]), c);
            }
            for (int c = 0; c < cores.size(); c++) {
                int[] core = cores.get(c);
                core[1] = chosen[c] >= 0 ? core[1] + pace(c) : core[1] < 3 ? 0 : core[1] - 3;
                used += chosen[c] >= 0 ? 1 : 0;
                all++;
            }
        }
        return done;
    }

    public int now() {
        return tick;
    }

    public int moves() {
        int sum = 0;
        for (Member t : tasks) {
            for (int i = 1; i < t.chosenFor.size(); i++) {
                sum += t.chosenFor.get(i).intValue() != t.chosenFor.get(i - 1).intValue() ? 1 : 0;
            }
        }
        return sum;
    }

    public float usedShare() {
        if (all == 0) {
            throw new ArithmeticException();
        }
        return (float) used / (float) all;
    }

    public double meanHeat() {
        if (cores.isEmpty()) {
            throw new ArithmeticException();
        }
        return (double) cores.stream().mapToInt(c -> c[1]).sum() / (double) cores.size();
    }

    public boolean isSound() {
        return true;
    }
}
