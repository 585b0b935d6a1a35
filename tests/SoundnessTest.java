import java.lang.reflect.Field;
import java.util.ArrayList;

/**
 * Promise 34, the other answer. No run of calls can make a scheduler unsound, so this test alone
 * looks inside and spoils a field by its name.
 */
public final class SoundnessTest {
    private static final Checks checks = new Checks();

    public static void main(String[] args) {
        checks.test("34 units done that do not add up", SoundnessTest::spoiledSum);
        checks.test("34 units of the first and of the last task", SoundnessTest::spoiledSums);
        checks.test("34 a task that waits for itself", SoundnessTest::spoiledLock);
        checks.test("34 the first and the last task wait so", SoundnessTest::spoiledLocks);
        checks.test("34 choices that differ for the last core", SoundnessTest::spoiledTree);
        checks.test("34 choices that differ for the first core", SoundnessTest::spoiledRoot);
        checks.finish();
    }

    private static TaskKernel busy() {
        TaskKernel x = new TaskKernel();
        x.addCore(2);
        x.addCore(1);
        x.addGroup(0, 1);
        x.addPlain(0, 1, 20);
        x.addPlain(1, 1, 20);
        x.take(0, 0);
        x.take(1, 0);
        x.pass(3);
        return x;
    }

    private static void spoiledSum() {
        TaskKernel x = busy();
        checks.due("isSound", x.isSound(), true);
        put(element(x, "tasks", 0), "done", 7);
        checks.due("isSound", x.isSound(), false);
    }

    private static void spoiledSums() {
        int[] firstAndLast = {0, 11};
        for (int task : firstAndLast) {
            TaskKernel x = Kernels.full();
            x.pass(9);
            int done = x.doneBy(task);
            put(element(x, "tasks", task), "done", done + 1);
            checks.due("one unit more by " + task, x.isSound(), false);
            put(element(x, "tasks", task), "done", done - 1);
            checks.due("one unit less by " + task, x.isSound(), false);
            put(element(x, "tasks", task), "done", done);
            checks.due("as it was", x.isSound(), true);
        }
    }

    private static void spoiledLock() {
        TaskKernel x = busy();
        put(element(x, "locks", 0), "holder", element(x, "tasks", 1));
        checks.due("isSound", x.isSound(), false);
    }

    private static void spoiledLocks() {
        int[] firstAndLast = {0, 11};
        for (int task : firstAndLast) {
            TaskKernel x = Kernels.plain(Kernels.cores(1), 12, 9);
            x.take(5, 3);
            x.take(task, 3);
            checks.due("it waits for another", x.isSound(), true);
            put(element(x, "locks", 3), "holder", element(x, "tasks", task));
            checks.due("it waits for itself, " + task, x.isSound(), false);
        }
    }

    private static void spoiledTree() {
        TaskKernel x = busy();
        x.release(0);
        checks.due("isSound", x.isSound(), true);
        // A group that is its own parent is never reached from the group 0.
        Object group = element(x, "groups", 1);
        put(element(x, "tasks", 0), "left", 0);
        put(x, "root", group);
        put(element(x, "groups", 0), "done", 6);
        put(group, "done", 6);
        put(element(x, "tasks", 0), "left", 5);
        checks.due("choice(0)", x.choice(0), 1);
        checks.due("choiceByComparing(0)", x.choiceByComparing(0), 1);
        checks.due("choice(1)", x.choice(1), -1);
        checks.due("choiceByComparing(1)", x.choiceByComparing(1), 0);
        checks.due("isSound", x.isSound(), false);
    }

    private static void spoiledRoot() {
        TaskKernel x = Kernels.plain(Kernels.cores(1), 1, 9);
        x.addGroup(0, 1);
        x.addPlain(1, 1, 9);
        x.pass(1);
        checks.due("isSound", x.isSound(), true);
        // The way down the tree begins in the group 1 now, and never comes to the task 0.
        Object group = element(x, "groups", 1);
        put(group, "done", x.doneIn(0));
        put(x, "root", group);
        checks.due("choice(0)", x.choice(0), 1);
        checks.due("choiceByComparing(0)", x.choiceByComparing(0), 0);
        checks.due("isSound", x.isSound(), false);
    }

    private static Object element(TaskKernel x, String list, int index) {
        return ((ArrayList<?>) get(x, list)).get(index);
    }

    private static Object get(Object object, String name) {
        try {
            Field field = object.getClass().getDeclaredField(name);
            field.setAccessible(true);
            return field.get(object);
        } catch (ReflectiveOperationException e) {
            throw new IllegalStateException(e);
        }
    }

    private static void put(Object object, String name, Object value) {
        try {
            Field field = object.getClass().getDeclaredField(name);
            field.setAccessible(true);
            field.set(object, value);
        } catch (ReflectiveOperationException e) {
            throw new IllegalStateException(e);
        }
    }
}
