import java.util.ArrayList;
import java.util.NoSuchElementException;

/**
 * The heart of a scheduler: tasks in a tree of groups, timed tasks, cores with heat under a power
 * cap, and locks that lend urgency. The numbers at the methods are the promises of the document.
 */
public final class TaskKernel {
    private static final int MOST_CORES = 3;
    private static final int MOST_SPEED = 4;
    private static final int MOST_LIMIT = 99;
    private static final int MOST_CAP = 12;
    private static final int COOLING = 3;
    private static final int MOST_GROUPS = 6;
    private static final int MOST_TASKS = 12;
    private static final int MOST_WEIGHT = 9;
    private static final int MOST_UNITS = 500;
    private static final int LEAST_PERIOD = 2;
    private static final int MOST_PERIOD = 60;
    private static final int MOST_BUDGET = 40;
    private static final int FULL_SHARE = 1000;
    private static final int LOCKS = 4;
    private static final int MOST_TICKS = 50;
    private static final int LAST_TICK = 900;
    private static final int NONE = -1;
    /** Every weight from 1 to 9 divides it, so virtual times stay whole. */
    private static final int TIME_OF_A_UNIT = 2520;
    /** Greater than every deadline, so that it loses every comparison. */
    private static final int NO_URGENCY = Integer.MAX_VALUE;

    private static final class Core {
        private final int speed;
        private int heat;
        /** What the last round of choices gave this core; null if it rests. */
        private Task pick;

        private Core(int speed) {
            this.speed = speed;
        }

        private int paceUnder(int limit) {
            return heat < limit ? speed : (speed + 1) / 2;
        }
    }

    private static final class Group {
        private final int number;
        private final Group parent;
        private final int timePerUnit;
        private long time;
        private int done;
        /** Whether a task in or under the group can be chosen; holds only within one choice. */
        private boolean live;

        private Group(int number, Group parent, int timePerUnit, long time) {
            this.number = number;
            this.parent = parent;
            this.timePerUnit = timePerUnit;
            this.time = time;
        }
    }

    private static final class Task {
        private final int number;
        private final Group group;
        private final int timePerUnit;
        private long time;
        private int left;
        private int done;
        private boolean ended;
        /** Of a plain task, the period, the budget, the share and the deadline stay 0. */
        private int period;
        private int budget;
        private int share;
        private int deadline;
        private int missed;
        private Lock awaited;
        private Core lastCore;
        /** The urgency and the mark hold only within one round of choices. */
        private int urgency;
        private boolean canBeChosen;

        private Task(int number, Group group, int timePerUnit, long time, int left) {
            this.number = number;
            this.group = group;
            this.timePerUnit = timePerUnit;
            this.time = time;
            this.left = left;
        }

        private boolean isTimed() {
            return period > 0;
        }

        private boolean isReady() {
            return !ended && awaited == null && left > 0;
        }

        private int ownUrgency() {
            return isTimed() && left > 0 ? deadline : NO_URGENCY;
        }
    }

    private static final class Lock {
        private Task holder;
        private final ArrayList<Task> waiters = new ArrayList<>();
    }

    private final ArrayList<Core> cores = new ArrayList<>();
    private final ArrayList<Group> groups = new ArrayList<>();
    private final ArrayList<Task> tasks = new ArrayList<>();
    private final ArrayList<Lock> locks = new ArrayList<>();
    private final Group root = new Group(0, null, 0, 0);
    private int heatLimit = 50;
    private int powerCap = MOST_CAP;
    private int presentTick = 0;
    private int moveCount = 0;
    private int usedCoreTicks = 0;
    private int allCoreTicks = 0;

    /** 1: a scheduler without cores and tasks, with the group 0, in the tick 0. */
    public TaskKernel() {
        groups.add(root);
        for (int i = 0; i < LOCKS; i++) {
            locks.add(new Lock());
        }
    }

    // ---- cores

    /** 2: adds a core. */
    public int addCore(int speed) throws IllegalArgumentException, IllegalStateException {
        if (speed < 1 || speed > MOST_SPEED) {
            throw new IllegalArgumentException("the speed is out of range");
        }
        int number = cores.size();
        if (number >= MOST_CORES) {
            throw new IllegalStateException("there are as many cores as there may be");
        }
        cores.add(new Core(speed));
        return number;
    }

    /** 3: sets the limit of the heat. */
    public int setLimit(int limit) throws IllegalArgumentException {
        if (limit < 1 || limit > MOST_LIMIT) {
            throw new IllegalArgumentException("the limit is out of range");
        }
        int before = heatLimit;
        heatLimit = limit;
        return before;
    }

    /** 4: sets the power cap. */
    public int setCap(int cap) throws IllegalArgumentException {
        if (cap < 0 || cap > MOST_CAP) {
            throw new IllegalArgumentException("the power cap is out of range");
        }
        int before = powerCap;
        powerCap = cap;
        return before;
    }

    /** 5: the heat of a core. */
    public int heat(int core) throws IndexOutOfBoundsException {
        Core asked = coreAt(core);
        if (asked == null) {
            throw new IndexOutOfBoundsException("there is no such core");
        }
        return asked.heat;
    }

    /** 6: the pace of a core. */
    public int pace(int core) throws IndexOutOfBoundsException {
        Core asked = coreAt(core);
        if (asked == null) {
            throw new IndexOutOfBoundsException("there is no such core");
        }
        return asked.paceUnder(heatLimit);
    }

    // ---- groups and tasks

    /** 7: adds a group. */
    public int addGroup(int parent, int weight)
            throws IndexOutOfBoundsException, IllegalArgumentException, IllegalStateException {
        Group above = groupAt(parent);
        if (above == null) {
            throw new IndexOutOfBoundsException("there is no such group");
        }
        if (weight < 1 || weight > MOST_WEIGHT) {
            throw new IllegalArgumentException("the weight is out of range");
        }
        int number = groups.size();
        if (number >= MOST_GROUPS) {
            throw new IllegalStateException("there are as many groups as there may be");
        }
        groups.add(new Group(number, above, TIME_OF_A_UNIT / weight, leastTimeIn(above)));
        return number;
    }

    /** 8: adds a plain task. */
    public int addPlain(int group, int weight, int units)
            throws IndexOutOfBoundsException, IllegalArgumentException, IllegalStateException {
        Group home = groupAt(group);
        if (home == null) {
            throw new IndexOutOfBoundsException("there is no such group");
        }
        if (weight < 1 || weight > MOST_WEIGHT || units < 1 || units > MOST_UNITS) {
            throw new IllegalArgumentException("a number is out of range");
        }
        int number = tasks.size();
        if (number >= MOST_TASKS) {
            throw new IllegalStateException("there are as many tasks as there may be");
        }
        tasks.add(new Task(number, home, TIME_OF_A_UNIT / weight, leastTimeIn(home), units));
        return number;
    }

    /** 9: adds a timed task, if it is admitted. */
    public int addTimed(int group, int weight, int period, int budget)
            throws IndexOutOfBoundsException, IllegalArgumentException,
            UnsupportedOperationException, IllegalStateException {
        Group home = groupAt(group);
        if (home == null) {
            throw new IndexOutOfBoundsException("there is no such group");
        }
        if (weight < 1 || weight > MOST_WEIGHT || period < LEAST_PERIOD || period > MOST_PERIOD
                || budget < 1 || budget > MOST_BUDGET) {
            throw new IllegalArgumentException("a number is out of range");
        }
        int share = (FULL_SHARE * budget + period - 1) / period;
        if (admitted() + share > FULL_SHARE * promise()) {
            throw new UnsupportedOperationException("the task is not admitted");
        }
        int number = tasks.size();
        if (number >= MOST_TASKS) {
            throw new IllegalStateException("there are as many tasks as there may be");
        }
        Task added = new Task(number, home, TIME_OF_A_UNIT / weight, leastTimeIn(home), budget);
        added.period = period;
        added.budget = budget;
        added.share = share;
        added.deadline = presentTick + period;
        tasks.add(added);
        return number;
    }

    /** 10: ends a task. */
    public int end(int task) throws NoSuchElementException, IllegalStateException {
        Task asked = taskAt(task);
        if (asked == null) {
            throw new NoSuchElementException("there is no such task");
        }
        if (asked.ended) {
            throw new IllegalStateException("the task has ended");
        }
        int dropped = asked.left;
        asked.left = 0;
        asked.ended = true;
        stopWaiting(asked);
        for (int i = 0; i < locks.size(); i++) {
            Lock lock = locks.get(i);
            if (lock.holder == asked) {
                passOn(lock);
            }
        }
        return dropped;
    }

    /** 11: the number of units left of a task. */
    public int left(int task) throws NoSuchElementException {
        Task asked = taskAt(task);
        if (asked == null) {
            throw new NoSuchElementException("there is no such task");
        }
        return asked.left;
    }

    /** 12: the state of a task, one of 'e', 'w', 'r' and 'i'. */
    public char stateOf(int task) throws NoSuchElementException {
        Task asked = taskAt(task);
        if (asked == null) {
            throw new NoSuchElementException("there is no such task");
        }
        if (asked.ended) {
            return 'e';
        }
        if (asked.awaited != null) {
            return 'w';
        }
        return asked.isReady() ? 'r' : 'i';
    }

    /** 13: the virtual time of a task. */
    public long timeOf(int task) throws NoSuchElementException {
        Task asked = taskAt(task);
        if (asked == null) {
            throw new NoSuchElementException("there is no such task");
        }
        return asked.time;
    }

    /** 14: the virtual time of a group other than the group 0. */
    public long timeOfGroup(int group) throws IndexOutOfBoundsException {
        Group asked = groupAt(group);
        if (asked == null || asked == root) {
            throw new IndexOutOfBoundsException("there is no such group with a virtual time");
        }
        return asked.time;
    }

    /** 15: the number of units that a task has done. */
    public int doneBy(int task) throws NoSuchElementException {
        Task asked = taskAt(task);
        if (asked == null) {
            throw new NoSuchElementException("there is no such task");
        }
        return asked.done;
    }

    /** 16: the number of units that all tasks in and under a group have done. */
    public int doneIn(int group) throws IndexOutOfBoundsException {
        Group asked = groupAt(group);
        if (asked == null) {
            throw new IndexOutOfBoundsException("there is no such group");
        }
        return asked.done;
    }

    // ---- deadlines

    /** 17: the sum of the shares of all timed tasks that have not ended. */
    public int admitted() {
        int sum = 0;
        for (int i = 0; i < tasks.size(); i++) {
            Task task = tasks.get(i);
            if (!task.ended) {
                sum += task.share;
            }
        }
        return sum;
    }

    /** 18: the sum of the speeds of all cores, but at most the power cap. */
    public int promise() {
        int sum = 0;
        for (int i = 0; i < cores.size(); i++) {
            sum += cores.get(i).speed;
        }
        return Math.min(sum, powerCap);
    }

    /** 19: the deadline of a timed task. */
    public int deadlineOf(int task) throws NoSuchElementException, UnsupportedOperationException {
        Task asked = taskAt(task);
        if (asked == null) {
            throw new NoSuchElementException("there is no such task");
        }
        if (!asked.isTimed()) {
            throw new UnsupportedOperationException("the task is plain");
        }
        return asked.deadline;
    }

    /** 20: the urgency of a task. */
    public int urgencyOf(int task) throws NoSuchElementException {
        Task asked = taskAt(task);
        if (asked == null) {
            throw new NoSuchElementException("there is no such task");
        }
        lendUrgencies();
        if (asked.urgency == NO_URGENCY) {
            throw new NoSuchElementException("the task has no urgency");
        }
        return asked.urgency;
    }

    /** 21: the number of misses of a task. */
    public int missesOf(int task) throws NoSuchElementException {
        Task asked = taskAt(task);
        if (asked == null) {
            throw new NoSuchElementException("there is no such task");
        }
        return asked.missed;
    }

    /** 22: the number of misses of all tasks. */
    public int misses() {
        int sum = 0;
        for (int i = 0; i < tasks.size(); i++) {
            sum += tasks.get(i).missed;
        }
        return sum;
    }

    // ---- locks

    /** 23: lets a task take a lock, or wait for it; answers whether it holds the lock then. */
    public boolean take(int task, int lock)
            throws NoSuchElementException, IndexOutOfBoundsException, IllegalStateException,
            UnsupportedOperationException {
        Task taker = taskAt(task);
        if (taker == null) {
            throw new NoSuchElementException("there is no such task");
        }
        Lock asked = lockAt(lock);
        if (asked == null) {
            throw new IndexOutOfBoundsException("there is no such lock");
        }
        if (taker.ended || taker.awaited != null || asked.holder == taker) {
            throw new IllegalStateException("the task has ended, waits, or holds this lock");
        }
        if (asked.holder == null) {
            asked.holder = taker;
            return true;
        }
        if (waitsInTheEndFor(asked.holder, taker)) {
            throw new UnsupportedOperationException("the tasks would wait for one another");
        }
        taker.awaited = asked;
        asked.waiters.add(taker);
        return false;
    }

    /** 24: releases a lock; answers who holds it then, or -1. */
    public int release(int lock) throws IndexOutOfBoundsException, IllegalStateException {
        Lock asked = lockAt(lock);
        if (asked == null) {
            throw new IndexOutOfBoundsException("there is no such lock");
        }
        if (asked.holder == null) {
            throw new IllegalStateException("the lock is free");
        }
        passOn(asked);
        return numberOf(asked.holder);
    }

    /** 25: the task that holds a lock, or -1. */
    public int holderOf(int lock) throws IndexOutOfBoundsException {
        Lock asked = lockAt(lock);
        if (asked == null) {
            throw new IndexOutOfBoundsException("there is no such lock");
        }
        return numberOf(asked.holder);
    }

    /** 26: the task at a place in the order in which tasks wait for a lock. */
    public int waiterAt(int lock, int index)
            throws IndexOutOfBoundsException, NoSuchElementException {
        Lock asked = lockAt(lock);
        if (asked == null) {
            throw new IndexOutOfBoundsException("there is no such lock");
        }
        if (index < 0 || index >= asked.waiters.size()) {
            throw new NoSuchElementException("there is no such place");
        }
        return numberOf(asked.waiters.get(index));
    }

    // ---- choices and ticks

    /** 27: the task that would be chosen for a core now, by going down the tree, or -1. */
    public int choice(int core) throws IndexOutOfBoundsException {
        Core asked = coreAt(core);
        if (asked == null) {
            throw new IndexOutOfBoundsException("there is no such core");
        }
        chooseForAllCores(true);
        return numberOf(asked.pick);
    }

    /** 28: the same task, by comparing all tasks with one another. */
    public int choiceByComparing(int core) throws IndexOutOfBoundsException {
        Core asked = coreAt(core);
        if (asked == null) {
            throw new IndexOutOfBoundsException("there is no such core");
        }
        chooseForAllCores(false);
        return numberOf(asked.pick);
    }

    /** 29: lets ticks pass; answers the units done in them. */
    public int pass(int ticks) throws IllegalArgumentException, IllegalStateException {
        if (ticks < 1 || ticks > MOST_TICKS) {
            throw new IllegalArgumentException("the number is out of range");
        }
        if (presentTick + ticks > LAST_TICK) {
            throw new IllegalStateException("the present tick would be too great");
        }
        int before = root.done;
        for (int i = 0; i < ticks; i++) {
            passOneTick();
        }
        return root.done - before;
    }

    /** 30: the present tick. */
    public int now() {
        return presentTick;
    }

    /** 31: how often a task was chosen for another core than the last time. */
    public int moves() {
        return moveCount;
    }

    /** 32: the share of core ticks in which a task was chosen. */
    public float usedShare() throws ArithmeticException {
        if (allCoreTicks == 0) {
            throw new ArithmeticException("there were no core ticks");
        }
        return (float) usedCoreTicks / (float) allCoreTicks;
    }

    /** 33: the sum of the heats of the cores divided by their number. */
    public double meanHeat() throws ArithmeticException {
        int count = cores.size();
        if (count == 0) {
            throw new ArithmeticException("there are no cores");
        }
        int sum = 0;
        for (int i = 0; i < count; i++) {
            sum += cores.get(i).heat;
        }
        return (double) sum / (double) count;
    }

    /** 34: checks both ways of choosing, the sums of units done, and the waiting tasks. */
    public boolean isSound() {
        return bothWaysChooseAlike() && doneAddsUp() && noneWaitsForItself();
    }

    // ---- looking things up: null stands for "there is no such thing"

    private Core coreAt(int number) {
        return number < 0 || number >= cores.size() ? null : cores.get(number);
    }

    private Group groupAt(int number) {
        return number < 0 || number >= groups.size() ? null : groups.get(number);
    }

    private Task taskAt(int number) {
        return number < 0 || number >= tasks.size() ? null : tasks.get(number);
    }

    private Lock lockAt(int number) {
        return number < 0 || number >= locks.size() ? null : locks.get(number);
    }

    private static int numberOf(Task task) {
        return task == null ? NONE : task.number;
    }

    /** The virtual time at which a new member of the group begins. */
    private long leastTimeIn(Group group) {
        long least = Long.MAX_VALUE;
        for (int i = 0; i < groups.size(); i++) {
            Group member = groups.get(i);
            if (member.parent == group) {
                least = Math.min(least, member.time);
            }
        }
        for (int i = 0; i < tasks.size(); i++) {
            Task member = tasks.get(i);
            if (member.group == group) {
                least = Math.min(least, member.time);
            }
        }
        return least == Long.MAX_VALUE ? 0 : least;
    }

    // ---- locks and urgency

    private static void stopWaiting(Task task) {
        Lock lock = task.awaited;
        if (lock == null) {
            return;
        }
        task.awaited = null;
        for (int i = lock.waiters.size() - 1; i >= 0; i--) {
            if (lock.waiters.get(i) == task) {
                lock.waiters.remove(i);
            }
        }
    }

    private static void passOn(Lock lock) {
        if (lock.waiters.isEmpty()) {
            lock.holder = null;
            return;
        }
        Task next = lock.waiters.remove(0);
        next.awaited = null;
        lock.holder = next;
    }

    /** The task that holds the lock for which the task waits, or null if it does not wait. */
    private static Task holderBefore(Task task) {
        return task.awaited == null ? null : task.awaited.holder;
    }

    private static boolean waitsInTheEndFor(Task waiting, Task other) {
        Task holder = holderBefore(waiting);
        for (int i = 0; i < MOST_TASKS && holder != null; i++) {
            if (holder == other) {
                return true;
            }
            holder = holderBefore(holder);
        }
        return false;
    }

    /** Finds the urgencies of all tasks: each deadline goes along the chain of holders. */
    private void lendUrgencies() {
        for (int i = 0; i < tasks.size(); i++) {
            Task task = tasks.get(i);
            task.urgency = task.ownUrgency();
        }
        for (int i = 0; i < tasks.size(); i++) {
            Task task = tasks.get(i);
            lendAlong(task, task.ownUrgency());
        }
    }

    private static void lendAlong(Task lender, int urgency) {
        Task holder = holderBefore(lender);
        for (int i = 0; i < MOST_TASKS && holder != null; i++) {
            holder.urgency = Math.min(holder.urgency, urgency);
            holder = holderBefore(holder);
        }
    }

    // ---- choices

    private void chooseForAllCores(boolean downTheTree) {
        lendUrgencies();
        for (int i = 0; i < tasks.size(); i++) {
            Task task = tasks.get(i);
            task.canBeChosen = task.isReady();
        }
        int power = 0;
        for (int i = 0; i < cores.size(); i++) {
            Core core = cores.get(i);
            int pace = core.paceUnder(heatLimit);
            Task pick = null;
            if (power + pace <= powerCap) {
                pick = downTheTree ? pickDownTheTree() : pickByComparing();
            }
            core.pick = pick;
            if (pick != null) {
                pick.canBeChosen = false;
                power += pace;
            }
        }
    }

    private Task pickDownTheTree() {
        Task urgent = mostUrgent();
        if (urgent != null) {
            return urgent;
        }
        markLiveGroups();
        Group group = root;
        for (int depth = 0; depth < MOST_GROUPS; depth++) {
            Group below = leastLiveGroupIn(group);
            Task task = leastTaskIn(group);
            if (below == null || (task != null && task.time < below.time)) {
                return task;
            }
            group = below;
        }
        return null;
    }

    private Task mostUrgent() {
        Task best = null;
        int least = NO_URGENCY;
        for (int i = 0; i < tasks.size(); i++) {
            Task task = tasks.get(i);
            if (task.canBeChosen && task.urgency < least) {
                best = task;
                least = task.urgency;
            }
        }
        return best;
    }

    private void markLiveGroups() {
        for (int i = 0; i < groups.size(); i++) {
            groups.get(i).live = false;
        }
        for (int i = 0; i < tasks.size(); i++) {
            Task task = tasks.get(i);
            if (task.canBeChosen) {
                for (Group group = task.group; group != null; group = group.parent) {
                    group.live = true;
                }
            }
        }
    }

    private Group leastLiveGroupIn(Group parent) {
        Group best = null;
        for (int i = 0; i < groups.size(); i++) {
            Group group = groups.get(i);
            if (group.live && group.parent == parent
                    && (best == null || group.time < best.time)) {
                best = group;
            }
        }
        return best;
    }

    private Task leastTaskIn(Group group) {
        Task best = null;
        for (int i = 0; i < tasks.size(); i++) {
            Task task = tasks.get(i);
            if (task.group == group && task.canBeChosen
                    && (best == null || task.time < best.time)) {
                best = task;
            }
        }
        return best;
    }

    private Task pickByComparing() {
        Task best = null;
        for (int i = 0; i < tasks.size(); i++) {
            Task task = tasks.get(i);
            if (task.canBeChosen && (best == null || goesBefore(task, best))) {
                best = task;
            }
        }
        return best;
    }

    private static boolean goesBefore(Task a, Task b) {
        if (a.urgency != b.urgency) {
            return a.urgency < b.urgency;
        }
        if (a.urgency != NO_URGENCY) {
            return a.number < b.number;
        }
        return goesBeforeInTheTree(a, b);
    }

    /** Compares the two members, above or at the tasks, of the lowest group common to both. */
    private static boolean goesBeforeInTheTree(Task a, Task b) {
        Group inA = a.group;
        Group inB = b.group;
        Group branchA = null;
        Group branchB = null;
        // A parent has a lower number, so the higher-numbered side is never above the other one.
        for (int i = 0; i < 2 * MOST_GROUPS && inA != null && inB != null && inA != inB; i++) {
            if (inA.number > inB.number) {
                branchA = inA;
                inA = inA.parent;
            } else {
                branchB = inB;
                inB = inB.parent;
            }
        }
        long timeA = branchA == null ? a.time : branchA.time;
        long timeB = branchB == null ? b.time : branchB.time;
        if (timeA != timeB) {
            return timeA < timeB;
        }
        if (branchA != null && branchB != null) {
            return branchA.number < branchB.number;
        }
        if (branchA == null && branchB == null) {
            return a.number < b.number;
        }
        return branchA != null;
    }

    // ---- ticks

    private void passOneTick() {
        releaseTimedTasks();
        chooseForAllCores(true);
        for (int i = 0; i < cores.size(); i++) {
            Core core = cores.get(i);
            if (core.pick != null) {
                work(core, core.pick);
            }
        }
        for (int i = 0; i < cores.size(); i++) {
            changeHeat(cores.get(i));
        }
        allCoreTicks += cores.size();
        presentTick++;
    }

    /** A task added in this tick has a later deadline, so it is left alone here. */
    private void releaseTimedTasks() {
        for (int i = 0; i < tasks.size(); i++) {
            Task task = tasks.get(i);
            if (task.isTimed() && !task.ended && task.deadline == presentTick) {
                if (task.left > 0) {
                    task.missed++;
                }
                task.left = task.budget;
                task.deadline = presentTick + task.period;
            }
        }
    }

    private void work(Core core, Task task) {
        int units = core.paceUnder(heatLimit);
        if (task.lastCore != null && task.lastCore != core) {
            units--;
            moveCount++;
        }
        task.lastCore = core;
        usedCoreTicks++;
        units = Math.min(units, task.left);
        task.left -= units;
        task.done += units;
        task.time += (long) units * task.timePerUnit;
        for (Group group = task.group; group != null; group = group.parent) {
            group.done += units;
            // The group 0 gains 0 a unit: it is a member of no group.
            group.time += (long) units * group.timePerUnit;
        }
    }

    private void changeHeat(Core core) {
        if (core.pick != null) {
            core.heat += core.paceUnder(heatLimit);
        } else {
            core.heat = Math.max(core.heat - COOLING, 0);
        }
    }

    // ---- soundness

    private boolean bothWaysChooseAlike() {
        for (int i = 0; i < cores.size(); i++) {
            if (choice(i) != choiceByComparing(i)) {
                return false;
            }
        }
        return true;
    }

    private boolean doneAddsUp() {
        int sum = 0;
        for (int i = 0; i < tasks.size(); i++) {
            sum += tasks.get(i).done;
        }
        return sum == root.done;
    }

    private boolean noneWaitsForItself() {
        for (int i = 0; i < tasks.size(); i++) {
            Task task = tasks.get(i);
            if (task.awaited != null && task.awaited.holder == task) {
                return false;
            }
        }
        return true;
    }
}
