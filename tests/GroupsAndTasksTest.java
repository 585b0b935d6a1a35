import java.util.NoSuchElementException;

/** Promises 7 to 16. */
public final class GroupsAndTasksTest {
    private static final Class<IllegalArgumentException> ARGUMENT = IllegalArgumentException.class;
    private static final Class<IllegalStateException> STATE = IllegalStateException.class;
    private static final Class<IndexOutOfBoundsException> INDEX = IndexOutOfBoundsException.class;
    private static final Class<NoSuchElementException> NOT_THERE = NoSuchElementException.class;
    private static final Class<UnsupportedOperationException> UNSUPPORTED =
            UnsupportedOperationException.class;
    private static final int[] FAR = {-1, Integer.MIN_VALUE, Integer.MAX_VALUE};

    private static final Checks checks = new Checks();

    public static void main(String[] args) {
        checks.test("7 addGroup", GroupsAndTasksTest::addGroup);
        checks.test("7 addGroup refused", GroupsAndTasksTest::addGroupRefused);
        checks.test("7, 8, 9 the virtual time of a new member", GroupsAndTasksTest::newMembers);
        checks.test("8 addPlain", GroupsAndTasksTest::addPlain);
        checks.test("8 addPlain refused", GroupsAndTasksTest::addPlainRefused);
        checks.test("9 addTimed", GroupsAndTasksTest::addTimed);
        checks.test("9 addTimed refused", GroupsAndTasksTest::addTimedRefused);
        checks.test("9 admission", GroupsAndTasksTest::admission);
        checks.test("10 end", GroupsAndTasksTest::end);
        checks.test("10 end and the locks", GroupsAndTasksTest::endAndLocks);
        checks.test("10 end refused", GroupsAndTasksTest::endRefused);
        checks.test("11 left", GroupsAndTasksTest::left);
        checks.test("12 stateOf", GroupsAndTasksTest::stateOf);
        checks.test("13 timeOf", GroupsAndTasksTest::timeOf);
        checks.test("14 timeOfGroup", GroupsAndTasksTest::timeOfGroup);
        checks.test("15 doneBy", GroupsAndTasksTest::doneBy);
        checks.test("16 doneIn", GroupsAndTasksTest::doneIn);
        checks.finish();
    }

    private static TaskKernel sixGroups() {
        TaskKernel x = new TaskKernel();
        for (int parent = 0; parent < 5; parent++) {
            x.addGroup(parent, 1);
        }
        return x;
    }

    private static TaskKernel twelveTasks() {
        TaskKernel x = new TaskKernel();
        x.addCore(1);
        for (int i = 0; i < 12; i++) {
            x.addPlain(0, 1, 5);
        }
        return x;
    }

    private static TaskKernel oneTask() {
        TaskKernel x = new TaskKernel();
        x.addCore(2);
        x.addPlain(0, 1, 5);
        return x;
    }

    private static void addGroup() {
        TaskKernel x = new TaskKernel();
        checks.due("addGroup(0, 1)", x.addGroup(0, 1), 1);
        checks.due("addGroup(0, 9)", x.addGroup(0, 9), 2);
        checks.due("addGroup(2, 5)", x.addGroup(2, 5), 3);
        checks.due("addGroup(3, 2)", x.addGroup(3, 2), 4);
        checks.due("addGroup(0, 3)", x.addGroup(0, 3), 5);
        checks.due("timeOfGroup(5)", x.timeOfGroup(5), 0L);
        checks.due("doneIn(5)", x.doneIn(5), 0);
        checks.due("addPlain in the last", x.addPlain(5, 1, 1), 0);
    }

    private static void addGroupRefused() {
        for (int far : FAR) {
            checks.refused(TaskKernel::new, "addGroup in " + far, INDEX, x -> x.addGroup(far, 1));
            checks.refused(TaskKernel::new, "addGroup with " + far, ARGUMENT, x -> x.addGroup(0, far));
        }
        checks.refused(TaskKernel::new, "addGroup(0, 0)", ARGUMENT, x -> x.addGroup(0, 0));
        checks.refused(TaskKernel::new, "addGroup(0, 10)", ARGUMENT, x -> x.addGroup(0, 10));
        checks.refused(TaskKernel::new, "addGroup(1, 1) in itself", INDEX, x -> x.addGroup(1, 1));
        checks.refused(TaskKernel::new, "addGroup(1, 10)", INDEX, x -> x.addGroup(1, 10));
        checks.refused(GroupsAndTasksTest::sixGroups, "a 7th", STATE, x -> x.addGroup(0, 1));
        checks.refused(GroupsAndTasksTest::sixGroups, "a 7th in 5", STATE, x -> x.addGroup(5, 9));
        checks.refused(GroupsAndTasksTest::sixGroups, "a 7th with 0", ARGUMENT, x -> x.addGroup(0, 0));
        checks.refused(GroupsAndTasksTest::sixGroups, "a 7th in 6", INDEX, x -> x.addGroup(6, 1));
    }

    private static void newMembers() {
        TaskKernel x = new TaskKernel();
        x.addCore(2);
        x.addPlain(0, 1, 4);
        x.pass(2);
        checks.due("timeOf(0)", x.timeOf(0), 4L * 2520);
        checks.due("addGroup", x.addGroup(0, 3), 1);
        checks.due("a group begins at the least of the tasks", x.timeOfGroup(1), 4L * 2520);
        x.addPlain(1, 7, 2);
        checks.due("the first member begins at 0", x.timeOf(1), 0L);
        x.pass(1);
        checks.due("timeOf(1)", x.timeOf(1), 2L * 360);
        checks.due("timeOfGroup(1)", x.timeOfGroup(1), 4L * 2520 + 2 * 840);
        x.end(0);
        x.addPlain(0, 1, 1);
        checks.due("ended tasks count", x.timeOf(2), 4L * 2520);
        x.addGroup(1, 1);
        checks.due("a group in a group", x.timeOfGroup(2), 720L);
        x.addGroup(2, 1);
        checks.due("the first group in a group", x.timeOfGroup(3), 0L);
        x.addTimed(3, 1, 10, 1);
        checks.due("a first timed task", x.timeOf(3), 0L);
        x.end(3);
        x.pass(1);
        checks.due("timeOf(2)", x.timeOf(2), 5L * 2520);
        x.addPlain(0, 1, 9);
        checks.due("the least is that of task 0", x.timeOf(4), 4L * 2520);

        TaskKernel y = new TaskKernel();
        y.addCore(4);
        y.addGroup(0, 1);
        y.addPlain(1, 2, 4);
        y.addPlain(1, 2, 500);
        y.pass(2);
        checks.due("timeOf(0)", y.timeOf(0), 4L * 1260);
        checks.due("timeOf(1)", y.timeOf(1), 4L * 1260);
        y.addPlain(0, 1, 1);
        checks.due("a task begins at the least of the groups", y.timeOf(2), 8L * 2520);
        y.addTimed(1, 9, 10, 1);
        checks.due("a timed task begins at the least of the tasks", y.timeOf(3), 4L * 1260);
    }

    private static void addPlain() {
        TaskKernel x = new TaskKernel();
        checks.due("addPlain(0, 1, 1)", x.addPlain(0, 1, 1), 0);
        checks.due("addPlain(0, 9, 500)", x.addPlain(0, 9, 500), 1);
        checks.due("left(0)", x.left(0), 1);
        checks.due("left(1)", x.left(1), 500);
        checks.due("stateOf(1)", x.stateOf(1), 'r');
        checks.due("doneBy(1)", x.doneBy(1), 0);
        checks.due("missesOf(1)", x.missesOf(1), 0);
        checks.due("admitted", x.admitted(), 0);
        x.addGroup(0, 1);
        for (int task = 2; task < 12; task++) {
            checks.due("addPlain(1, 5, 20)", x.addPlain(1, 5, 20), task);
        }
    }

    private static void addPlainRefused() {
        for (int far : FAR) {
            checks.refused(TaskKernel::new, "addPlain in " + far, INDEX, x -> x.addPlain(far, 1, 1));
            checks.refused(TaskKernel::new, "weight " + far, ARGUMENT, x -> x.addPlain(0, far, 1));
            checks.refused(TaskKernel::new, "units " + far, ARGUMENT, x -> x.addPlain(0, 1, far));
        }
        checks.refused(TaskKernel::new, "no group 1", INDEX, x -> x.addPlain(1, 1, 1));
        checks.refused(TaskKernel::new, "no group 1, weight 0", INDEX, x -> x.addPlain(1, 0, 1));
        checks.refused(TaskKernel::new, "weight 0", ARGUMENT, x -> x.addPlain(0, 0, 1));
        checks.refused(TaskKernel::new, "weight 10", ARGUMENT, x -> x.addPlain(0, 10, 1));
        checks.refused(TaskKernel::new, "units 0", ARGUMENT, x -> x.addPlain(0, 1, 0));
        checks.refused(TaskKernel::new, "units 501", ARGUMENT, x -> x.addPlain(0, 1, 501));
        checks.refused(GroupsAndTasksTest::twelveTasks, "a 13th", STATE, x -> x.addPlain(0, 1, 1));
        checks.refused(GroupsAndTasksTest::twelveTasks, "a 13th, 0 units", ARGUMENT,
                x -> x.addPlain(0, 1, 0));
        checks.refused(GroupsAndTasksTest::twelveTasks, "a 13th, weight 10", ARGUMENT,
                x -> x.addPlain(0, 10, 1));
        checks.refused(GroupsAndTasksTest::twelveTasks, "a 13th in 1", INDEX,
                x -> x.addPlain(1, 1, 1));
        TaskKernel x = twelveTasks();
        x.end(3);
        checks.thrown("ended tasks count too", STATE, () -> x.addPlain(0, 1, 1));
    }

    private static void addTimed() {
        TaskKernel x = new TaskKernel();
        x.addCore(4);
        x.addGroup(0, 2);
        x.pass(3);
        checks.due("addTimed(1, 2, 5, 3)", x.addTimed(1, 2, 5, 3), 0);
        checks.due("left", x.left(0), 3);
        checks.due("deadlineOf", x.deadlineOf(0), 8);
        checks.due("urgencyOf", x.urgencyOf(0), 8);
        checks.due("admitted", x.admitted(), 600);
        checks.due("stateOf", x.stateOf(0), 'r');
        checks.due("missesOf", x.missesOf(0), 0);
        checks.due("addTimed(0, 9, 60, 40)", x.addTimed(0, 9, 60, 40), 1);
        checks.due("deadlineOf(1)", x.deadlineOf(1), 63);
        checks.due("addTimed(0, 1, 2, 1)", x.addTimed(0, 1, 2, 1), 2);
        checks.due("deadlineOf(2)", x.deadlineOf(2), 5);
        checks.due("admitted, rounded up", x.admitted(), 600 + 667 + 500);
        checks.due("a plain one after", x.addPlain(0, 1, 1), 3);
    }

    private static TaskKernel oneCore() {
        TaskKernel x = new TaskKernel();
        x.addCore(1);
        return x;
    }

    private static TaskKernel fullOfTimed() {
        TaskKernel x = oneCore();
        for (int i = 0; i < 12; i++) {
            x.addTimed(0, 1, 12, 1);
            if (i < 2) {
                x.end(i);
            }
        }
        return x;
    }

    private static void addTimedRefused() {
        for (int far : FAR) {
            checks.refused(GroupsAndTasksTest::oneCore, "group " + far, INDEX,
                    x -> x.addTimed(far, 1, 10, 1));
            checks.refused(GroupsAndTasksTest::oneCore, "weight " + far, ARGUMENT,
                    x -> x.addTimed(0, far, 10, 1));
            checks.refused(GroupsAndTasksTest::oneCore, "period " + far, ARGUMENT,
                    x -> x.addTimed(0, 1, far, 1));
            checks.refused(GroupsAndTasksTest::oneCore, "budget " + far, ARGUMENT,
                    x -> x.addTimed(0, 1, 10, far));
        }
        int[][] wrong = {{0, 10, 1}, {10, 10, 1}, {1, 0, 1}, {1, 1, 1}, {1, 61, 1}, {1, 10, 0},
            {1, 60, 41}};
        for (int[] w : wrong) {
            checks.refused(GroupsAndTasksTest::oneCore, "addTimed with " + w[0] + " " + w[1] + " "
                    + w[2], ARGUMENT, x -> x.addTimed(0, w[0], w[1], w[2]));
        }
        checks.refused(GroupsAndTasksTest::oneCore, "no group, no weight, not admitted", INDEX,
                x -> x.addTimed(1, 0, 2, 40));
        checks.refused(GroupsAndTasksTest::oneCore, "weight before admission", ARGUMENT,
                x -> x.addTimed(0, 0, 2, 40));
        checks.refused(GroupsAndTasksTest::oneCore, "not admitted", UNSUPPORTED,
                x -> x.addTimed(0, 1, 2, 3));
        checks.refused(TaskKernel::new, "without cores", UNSUPPORTED, x -> x.addTimed(0, 1, 60, 1));
        // 10 shares of 84 are 840: 160 more are admitted, 167 are not.
        checks.refused(GroupsAndTasksTest::fullOfTimed, "a 13th, not admitted", UNSUPPORTED,
                x -> x.addTimed(0, 1, 6, 1));
        checks.refused(GroupsAndTasksTest::fullOfTimed, "a 13th", STATE,
                x -> x.addTimed(0, 1, 25, 4));
        checks.refused(GroupsAndTasksTest::fullOfTimed, "a 13th, weight 10", ARGUMENT,
                x -> x.addTimed(0, 10, 25, 4));
        checks.refused(GroupsAndTasksTest::fullOfTimed, "a 13th in 1", INDEX,
                x -> x.addTimed(1, 1, 25, 4));
    }

    private static void admission() {
        TaskKernel x = new TaskKernel();
        x.addCore(1);
        checks.due("a share of 334", x.addTimed(0, 1, 3, 1), 0);
        checks.due("another", x.addTimed(0, 1, 3, 1), 1);
        checks.thrown("a third makes 1002", UNSUPPORTED, () -> x.addTimed(0, 1, 3, 1));
        checks.thrown("667 make 1001", UNSUPPORTED, () -> x.addTimed(0, 1, 3, 2));
        checks.due("320 make 988", x.addTimed(0, 1, 50, 16), 2);
        checks.thrown("20 make 1008", UNSUPPORTED, () -> x.addTimed(0, 1, 50, 1));
        checks.due("admitted", x.admitted(), 988);
        checks.due("end(2)", x.end(2), 16);
        checks.due("admitted without it", x.admitted(), 668);
        checks.due("316 make 984", x.addTimed(0, 1, 38, 12), 3);
        checks.due("admitted", x.admitted(), 984);

        TaskKernel y = new TaskKernel();
        y.addCore(4);
        y.addCore(4);
        y.setCap(1);
        checks.thrown("the cap bounds the promise", UNSUPPORTED, () -> y.addTimed(0, 1, 2, 3));
        checks.due("1000 of 1000", y.addTimed(0, 1, 2, 2), 0);
        y.setCap(0);
        checks.due("what was admitted stays", y.admitted(), 1000);
        checks.due("and is not ended", y.stateOf(0), 'r');
        checks.thrown("nothing more", UNSUPPORTED, () -> y.addTimed(0, 1, 60, 1));
        y.setCap(12);
        checks.due("8000 of 8000", y.addTimed(0, 1, 5, 35), 1);
        checks.thrown("8017", UNSUPPORTED, () -> y.addTimed(0, 1, 60, 1));
        y.end(0);
        checks.due("7017", y.addTimed(0, 1, 60, 1), 2);
        checks.due("admitted", y.admitted(), 7017);
    }

    private static void end() {
        TaskKernel x = new TaskKernel();
        x.addCore(2);
        x.addPlain(0, 1, 5);
        x.addTimed(0, 1, 4, 3);
        x.pass(1);
        checks.due("end(1)", x.end(1), 1);
        checks.due("left(1)", x.left(1), 0);
        checks.due("stateOf(1)", x.stateOf(1), 'e');
        checks.due("admitted", x.admitted(), 0);
        checks.due("doneBy(1) stays", x.doneBy(1), 2);
        checks.due("timeOf(1) stays", x.timeOf(1), 5040L);
        checks.thrown("no urgency", NOT_THERE, () -> x.urgencyOf(1));
        x.pass(8);
        checks.due("no release after the end", x.left(1), 0);
        checks.due("no miss after the end", x.missesOf(1), 0);
        checks.due("its deadline stays", x.deadlineOf(1), 4);
        checks.due("still ended", x.stateOf(1), 'e');
        checks.due("end(0) of one that is done", x.end(0), 0);
        checks.due("stateOf(0)", x.stateOf(0), 'e');
        checks.due("an ended task is not chosen", x.choice(0), -1);
    }

    private static void endAndLocks() {
        TaskKernel x = new TaskKernel();
        for (int i = 0; i < 5; i++) {
            x.addPlain(0, 1, 10 + i);
        }
        x.take(0, 3);
        x.take(0, 1);
        x.take(0, 0);
        x.take(1, 1);
        x.take(2, 1);
        x.take(3, 3);
        x.take(4, 2);
        checks.due("end(0)", x.end(0), 10);
        checks.due("lock 0 is free", x.holderOf(0), -1);
        checks.due("lock 1 goes to 1", x.holderOf(1), 1);
        checks.due("2 waits on", x.waiterAt(1, 0), 2);
        checks.due("stateOf(2)", x.stateOf(2), 'w');
        checks.due("stateOf(1)", x.stateOf(1), 'r');
        checks.due("lock 3 goes to 3", x.holderOf(3), 3);
        checks.due("lock 2 stays", x.holderOf(2), 4);
        x.take(3, 1);
        x.take(4, 1);
        checks.due("end(3), which waits in the middle", x.end(3), 13);
        checks.due("the first waiter", x.waiterAt(1, 0), 2);
        checks.due("the next one", x.waiterAt(1, 1), 4);
        checks.thrown("no third", NOT_THERE, () -> x.waiterAt(1, 2));
        checks.due("stateOf(3)", x.stateOf(3), 'e');
        checks.due("lock 3 is free", x.holderOf(3), -1);
        checks.due("end(2), the first waiter", x.end(2), 12);
        checks.due("release(1) skips it", x.release(1), 4);
        checks.due("lock 2 is still held", x.holderOf(2), 4);
        checks.due("end(4)", x.end(4), 14);
        checks.due("lock 1 is free", x.holderOf(1), -1);
        checks.due("lock 2 is free", x.holderOf(2), -1);
        checks.due("isSound", x.isSound(), true);
    }

    private static void endRefused() {
        for (int far : FAR) {
            checks.refused(GroupsAndTasksTest::oneTask, "end " + far, NOT_THERE, x -> x.end(far));
        }
        checks.refused(GroupsAndTasksTest::oneTask, "end(1)", NOT_THERE, x -> x.end(1));
        checks.refused(() -> {
            TaskKernel x = oneTask();
            x.end(0);
            return x;
        }, "end again", STATE, x -> x.end(0));
    }

    private static void left() {
        TaskKernel x = oneTask();
        checks.due("left(0)", x.left(0), 5);
        checks.due("pass(2)", x.pass(2), 4);
        checks.due("left(0)", x.left(0), 1);
        checks.due("not more than are left", x.pass(1), 1);
        checks.due("left(0)", x.left(0), 0);
        checks.due("pass(5)", x.pass(5), 0);
        for (int far : FAR) {
            checks.refused(GroupsAndTasksTest::oneTask, "left " + far, NOT_THERE, k -> k.left(far));
        }
        checks.thrown("left(1)", NOT_THERE, () -> x.left(1));
    }

    private static void stateOf() {
        TaskKernel x = oneTask();
        x.addPlain(0, 1, 1);
        x.addTimed(0, 1, 10, 1);
        checks.due("stateOf(0)", x.stateOf(0), 'r');
        x.take(0, 0);
        checks.due("a holder is ready", x.stateOf(0), 'r');
        x.take(1, 0);
        checks.due("a waiter waits", x.stateOf(1), 'w');
        x.pass(1);
        checks.due("a timed task that is done is idle", x.stateOf(2), 'i');
        x.take(2, 0);
        checks.due("a waiter without units waits", x.stateOf(2), 'w');
        x.pass(3);
        checks.due("a plain task that is done is idle", x.stateOf(0), 'i');
        x.release(0);
        checks.due("who got the lock is ready", x.stateOf(1), 'r');
        x.release(0);
        checks.due("who got the lock without units is idle", x.stateOf(2), 'i');
        x.end(2);
        checks.due("an ended task", x.stateOf(2), 'e');
        x.take(0, 0);
        x.take(1, 0);
        x.end(1);
        checks.due("a waiter that ended", x.stateOf(1), 'e');
        for (int far : FAR) {
            checks.refused(GroupsAndTasksTest::oneTask, "stateOf " + far, NOT_THERE,
                    k -> k.stateOf(far));
        }
        checks.thrown("stateOf(3)", NOT_THERE, () -> x.stateOf(3));
    }

    private static void timeOf() {
        for (int weight = 1; weight <= 9; weight++) {
            TaskKernel x = new TaskKernel();
            x.addCore(3);
            x.addPlain(0, weight, 500);
            x.pass(1);
            checks.due("timeOf with weight " + weight, x.timeOf(0), 3L * (2520 / weight));
            TaskKernel y = new TaskKernel();
            y.addCore(3);
            y.addTimed(0, weight, 5, 2);
            y.pass(3);
            checks.due("of a timed task", y.timeOf(0), 2L * (2520 / weight));
            y.pass(5);
            checks.due("after a release", y.timeOf(0), 4L * (2520 / weight));
        }
        for (int far : FAR) {
            checks.refused(GroupsAndTasksTest::oneTask, "timeOf " + far, NOT_THERE,
                    k -> k.timeOf(far));
        }
        TaskKernel x = oneTask();
        checks.due("timeOf(0)", x.timeOf(0), 0L);
        checks.thrown("timeOf(1)", NOT_THERE, () -> x.timeOf(1));
        x.pass(10);
        checks.due("by the units done, not by the pace", x.timeOf(0), 5L * 2520);
    }

    private static void timeOfGroup() {
        TaskKernel x = new TaskKernel();
        x.addCore(4);
        x.addGroup(0, 2);
        x.addGroup(1, 3);
        x.addGroup(1, 9);
        x.addPlain(2, 1, 10);
        x.pass(1);
        checks.due("timeOfGroup(1)", x.timeOfGroup(1), 4L * 1260);
        checks.due("timeOfGroup(2)", x.timeOfGroup(2), 4L * 840);
        checks.due("timeOfGroup(3)", x.timeOfGroup(3), 0L);
        x.pass(2);
        checks.due("timeOfGroup(1) by the units done", x.timeOfGroup(1), 10L * 1260);
        checks.due("timeOfGroup(2) by the units done", x.timeOfGroup(2), 10L * 840);
        checks.thrown("timeOfGroup(0)", INDEX, () -> x.timeOfGroup(0));
        checks.thrown("timeOfGroup(4)", INDEX, () -> x.timeOfGroup(4));
        for (int far : FAR) {
            checks.refused(GroupsAndTasksTest::sixGroups, "timeOfGroup " + far, INDEX,
                    k -> k.timeOfGroup(far));
        }
        checks.refused(GroupsAndTasksTest::sixGroups, "timeOfGroup(0)", INDEX, k -> k.timeOfGroup(0));
        checks.refused(GroupsAndTasksTest::sixGroups, "timeOfGroup(6)", INDEX, k -> k.timeOfGroup(6));
    }

    private static void doneBy() {
        TaskKernel x = oneTask();
        x.addTimed(0, 1, 2, 1);
        checks.due("doneBy(0)", x.doneBy(0), 0);
        checks.due("pass(4)", x.pass(4), 6);
        checks.due("doneBy(1) over two releases", x.doneBy(1), 2);
        checks.due("doneBy(0)", x.doneBy(0), 4);
        x.end(0);
        checks.due("doneBy(0) after its end", x.doneBy(0), 4);
        for (int far : FAR) {
            checks.refused(GroupsAndTasksTest::oneTask, "doneBy " + far, NOT_THERE,
                    k -> k.doneBy(far));
        }
        checks.thrown("doneBy(2)", NOT_THERE, () -> x.doneBy(2));
    }

    private static void doneIn() {
        TaskKernel x = new TaskKernel();
        x.addCore(4);
        x.addGroup(0, 1);
        x.addGroup(1, 1);
        x.addGroup(0, 1);
        x.addPlain(2, 1, 3);
        x.addPlain(1, 1, 2);
        x.addPlain(3, 1, 1);
        x.addPlain(0, 1, 9);
        checks.due("doneIn(0)", x.doneIn(0), 0);
        checks.due("pass(50)", x.pass(50), 15);
        checks.due("doneIn(2)", x.doneIn(2), 3);
        checks.due("doneIn(1), with the group under it", x.doneIn(1), 5);
        checks.due("doneIn(3)", x.doneIn(3), 1);
        checks.due("doneIn(0)", x.doneIn(0), 15);
        x.end(0);
        checks.due("doneIn(2) after the end", x.doneIn(2), 3);
        checks.thrown("doneIn(4)", INDEX, () -> x.doneIn(4));
        for (int far : FAR) {
            checks.refused(GroupsAndTasksTest::sixGroups, "doneIn " + far, INDEX, k -> k.doneIn(far));
        }
        checks.refused(GroupsAndTasksTest::sixGroups, "doneIn(6)", INDEX, k -> k.doneIn(6));
    }
}
