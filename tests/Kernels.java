/** Objects to begin with. */
final class Kernels {
    private Kernels() {
    }

    /** Cores with these speeds, and nothing else. */
    static TaskKernel cores(int... speeds) {
        TaskKernel x = new TaskKernel();
        for (int speed : speeds) {
            x.addCore(speed);
        }
        return x;
    }

    /** The object with so many plain tasks of the weight 1 more in the group 0. */
    static TaskKernel plain(TaskKernel x, int count, int units) {
        for (int i = 0; i < count; i++) {
            x.addPlain(0, 1, units);
        }
        return x;
    }

    /** The object after as many ticks as are missing to this tick. */
    static TaskKernel inTick(int tick, TaskKernel x) {
        while (x.now() < tick) {
            x.pass(Math.min(50, tick - x.now()));
        }
        return x;
    }

    /** A tick in which no core is used. */
    static void rest(TaskKernel x, int ticks) {
        int cap = x.setCap(0);
        x.pass(ticks);
        x.setCap(cap);
    }

    /**
     * 3 cores, 6 groups, each in the one before it, and 12 tasks, a plain and a timed one in each
     * group; 3000 of 12000 are admitted. The task 0 holds the lock 0, and the task 6 waits for it.
     */
    static TaskKernel full() {
        TaskKernel x = cores(4, 4, 4);
        for (int parent = 0; parent < 5; parent++) {
            x.addGroup(parent, 9 - parent);
        }
        for (int group = 0; group < 6; group++) {
            x.addPlain(group, 1 + group, 100);
        }
        for (int group = 0; group < 6; group++) {
            x.addTimed(group, 9 - group, 60, 30);
        }
        x.take(0, 0);
        x.take(6, 0);
        return x;
    }
}
