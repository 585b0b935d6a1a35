import java.util.NoSuchElementException;

/** Promises 23 to 26. */
public final class LocksTest {
    private static final Class<IllegalStateException> STATE = IllegalStateException.class;
    private static final Class<IndexOutOfBoundsException> INDEX = IndexOutOfBoundsException.class;
    private static final Class<NoSuchElementException> NOT_THERE = NoSuchElementException.class;
    private static final Class<UnsupportedOperationException> UNSUPPORTED =
            UnsupportedOperationException.class;
    private static final int[] NO_LOCKS = {-1, 4, Integer.MIN_VALUE, Integer.MAX_VALUE};
    private static final int[] NO_TASKS = {-1, 5, 12, Integer.MIN_VALUE, Integer.MAX_VALUE};

    private static final Checks checks = new Checks();

    public static void main(String[] args) {
        checks.test("23 take", LocksTest::take);
        checks.test("23 take without units left", LocksTest::takeIdle);
        checks.test("23 take refused", LocksTest::takeRefused);
        checks.test("23 tasks that would wait for one another", LocksTest::circles);
        checks.test("23 no circle", LocksTest::noCircle);
        checks.test("24 release", LocksTest::release);
        checks.test("24 release refused", LocksTest::releaseRefused);
        checks.test("25 holderOf", LocksTest::holderOf);
        checks.test("26 waiterAt", LocksTest::waiterAt);
        checks.test("26 waiterAt refused", LocksTest::waiterAtRefused);
        checks.finish();
    }

    private static TaskKernel fiveTasks() {
        TaskKernel x = new TaskKernel();
        x.addCore(2);
        for (int i = 0; i < 5; i++) {
            x.addPlain(0, 1, 10);
        }
        return x;
    }

    /** 0 holds lock 0, 1 holds lock 1 and waits for 0, 2 holds 2 and waits for 1; 4 has ended. */
    private static TaskKernel chain() {
        TaskKernel x = fiveTasks();
        x.take(0, 0);
        x.take(1, 1);
        x.take(2, 2);
        x.take(1, 0);
        x.take(2, 1);
        x.end(4);
        return x;
    }

    private static void take() {
        TaskKernel x = fiveTasks();
        checks.due("take(3, 0)", x.take(3, 0), true);
        checks.due("holderOf(0)", x.holderOf(0), 3);
        checks.due("take(3, 3)", x.take(3, 3), true);
        checks.due("take(1, 3)", x.take(1, 3), false);
        checks.due("take(0, 3)", x.take(0, 3), false);
        checks.due("take(4, 3)", x.take(4, 3), false);
        checks.due("the order of waiting", x.waiterAt(3, 0), 1);
        checks.due("the order of waiting", x.waiterAt(3, 1), 0);
        checks.due("the order of waiting", x.waiterAt(3, 2), 4);
        checks.due("stateOf(0)", x.stateOf(0), 'w');
        checks.due("holderOf(3)", x.holderOf(3), 3);
        checks.due("another lock", x.take(2, 1), true);
        checks.due("a waiter is not chosen", x.choice(0), 2);
    }

    private static void takeIdle() {
        TaskKernel x = fiveTasks();
        x.pass(50);
        checks.due("stateOf(0)", x.stateOf(0), 'i');
        checks.due("take(0, 0)", x.take(0, 0), true);
        checks.due("take(1, 0)", x.take(1, 0), false);
        checks.due("stateOf(1)", x.stateOf(1), 'w');
    }

    private static void takeRefused() {
        for (int far : NO_TASKS) {
            checks.refused(LocksTest::chain, "take by " + far, NOT_THERE, x -> x.take(far, 3));
            checks.refused(LocksTest::chain, "take by " + far + " of no lock", NOT_THERE,
                    x -> x.take(far, 4));
        }
        for (int far : NO_LOCKS) {
            checks.refused(LocksTest::chain, "take of " + far, INDEX, x -> x.take(3, far));
            checks.refused(LocksTest::chain, "an ended one takes " + far, INDEX,
                    x -> x.take(4, far));
            checks.refused(LocksTest::chain, "a waiting one takes " + far, INDEX,
                    x -> x.take(1, far));
        }
        checks.refused(LocksTest::chain, "an ended one, a free lock", STATE, x -> x.take(4, 3));
        checks.refused(LocksTest::chain, "an ended one, a held lock", STATE, x -> x.take(4, 0));
        checks.refused(LocksTest::chain, "a waiting one, a free lock", STATE, x -> x.take(1, 3));
        checks.refused(LocksTest::chain, "a waiting one, its own lock", STATE, x -> x.take(1, 1));
        checks.refused(LocksTest::chain, "a waiting one, the same lock", STATE, x -> x.take(1, 0));
        checks.refused(LocksTest::chain, "a waiting one, in a circle", STATE, x -> x.take(1, 2));
        checks.refused(LocksTest::chain, "it holds this lock", STATE, x -> x.take(0, 0));
    }

    private static void circles() {
        checks.refused(LocksTest::chain, "a circle of two", UNSUPPORTED, x -> x.take(0, 1));
        checks.refused(LocksTest::chain, "a circle of three", UNSUPPORTED, x -> x.take(0, 2));
        checks.refused(() -> {
            TaskKernel x = chain();
            x.take(3, 3);
            x.take(3, 2);
            return x;
        }, "a circle of four", UNSUPPORTED, x -> x.take(0, 3));
        TaskKernel x = chain();
        x.release(0);
        checks.due("1 does not wait any more", x.take(0, 2), false);
    }

    private static void noCircle() {
        TaskKernel x = chain();
        checks.due("3 waits at the end of the chain", x.take(3, 2), false);
        checks.due("0 takes a free lock", x.take(0, 3), true);
        TaskKernel y = chain();
        checks.due("3 takes lock 3", y.take(3, 3), true);
        checks.due("0 waits for one that does not wait", y.take(0, 3), false);
        checks.thrown("which now must not wait for 0", UNSUPPORTED, () -> y.take(3, 2));
        checks.thrown("nor for 1", UNSUPPORTED, () -> y.take(3, 0));
        y.end(1);
        checks.due("after the end of 1, lock 1 goes to 2", y.holderOf(1), 2);
        checks.due("and 2 waits no more", y.take(3, 2), false);
    }

    private static void release() {
        TaskKernel x = chain();
        checks.due("lock 0 goes to 1", x.release(0), 1);
        checks.due("stateOf(1)", x.stateOf(1), 'r');
        checks.due("holderOf(0)", x.holderOf(0), 1);
        checks.thrown("nobody waits", NOT_THERE, () -> x.waiterAt(0, 0));
        checks.due("lock 0 is free", x.release(0), -1);
        checks.due("holderOf(0)", x.holderOf(0), -1);
        checks.due("lock 1 is still held", x.holderOf(1), 1);
        checks.due("2 still waits", x.stateOf(2), 'w');
        checks.due("taken again", x.take(3, 0), true);
        x.take(0, 0);
        x.take(1, 0);
        checks.due("first come", x.release(0), 0);
        checks.due("the next is the first now", x.waiterAt(0, 0), 1);
        checks.due("then the next", x.release(0), 1);
        checks.due("then nobody", x.release(0), -1);
    }

    private static void releaseRefused() {
        for (int far : NO_LOCKS) {
            checks.refused(LocksTest::chain, "release " + far, INDEX, x -> x.release(far));
        }
        checks.refused(LocksTest::chain, "release(3) of a free lock", STATE, x -> x.release(3));
        checks.refused(TaskKernel::new, "release(0) of a new object", STATE, x -> x.release(0));
    }

    private static void holderOf() {
        TaskKernel x = chain();
        checks.due("holderOf(0)", x.holderOf(0), 0);
        checks.due("holderOf(1)", x.holderOf(1), 1);
        checks.due("holderOf(2)", x.holderOf(2), 2);
        checks.due("holderOf(3)", x.holderOf(3), -1);
        x.pass(50);
        checks.due("ticks change nothing", x.holderOf(0), 0);
        for (int far : NO_LOCKS) {
            checks.refused(LocksTest::chain, "holderOf " + far, INDEX, k -> k.holderOf(far));
        }
    }

    private static void waiterAt() {
        TaskKernel x = new TaskKernel();
        for (int i = 0; i < 12; i++) {
            x.addPlain(0, 1, 1);
        }
        for (int i = 0; i < 12; i++) {
            x.take(11 - i, 2);
        }
        for (int i = 0; i < 11; i++) {
            checks.due("waiterAt(2, " + i + ")", x.waiterAt(2, i), 10 - i);
        }
        checks.thrown("waiterAt(2, 11)", NOT_THERE, () -> x.waiterAt(2, 11));
        x.end(5);
        checks.due("before the gap", x.waiterAt(2, 4), 6);
        checks.due("after the gap", x.waiterAt(2, 5), 4);
        checks.thrown("waiterAt(2, 10)", NOT_THERE, () -> x.waiterAt(2, 10));
    }

    private static void waiterAtRefused() {
        for (int far : NO_LOCKS) {
            checks.refused(LocksTest::chain, "waiterAt " + far, INDEX, x -> x.waiterAt(far, 0));
            checks.refused(LocksTest::chain, "waiterAt " + far + " and no place", INDEX,
                    x -> x.waiterAt(far, -1));
        }
        int[] noPlaces = {-1, 1, 2, 12, Integer.MIN_VALUE, Integer.MAX_VALUE};
        for (int index : noPlaces) {
            checks.refused(LocksTest::chain, "waiterAt(0, " + index + ")", NOT_THERE,
                    x -> x.waiterAt(0, index));
        }
        checks.refused(LocksTest::chain, "nobody waits for 2", NOT_THERE, x -> x.waiterAt(2, 0));
        checks.refused(LocksTest::chain, "lock 3 is free", NOT_THERE, x -> x.waiterAt(3, 0));
    }
}
